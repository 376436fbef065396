/-! every step -/
section S2
variable {p : Program} {l : Launch} {e : Env} {R : Room} {s : State} {m : MethodId} {args : Array Value} {below : List Frame} {meth : Method} {c : Code} {Q : State → Prop}
variable {g : GX} {xt : XT} {n0 s0 k : Nat}
set_option maxRecDepth 100000 in
theorem lkS_ok : ∀ k, k < 312 → (qcode k).all (fun q => match q with
  | (_, .ldc i, a, 1, _) => decide (2 ≤ a ∧ a < 24 ∧ (strT.getD (a - 2) ("", 0, "")).1 = oN (qo k) ∧ (strT.getD (a - 2) ("", 0, "")).2.1 = i)
  | (_, .ldc_w i, a, 1, _) => decide (2 ≤ a ∧ a < 24 ∧ (strT.getD (a - 2) ("", 0, "")).1 = oN (qo k) ∧ (strT.getD (a - 2) ("", 0, "")).2.1 = i)
  | _ => true) = true := by decide +kernel
theorem fetch_mem {pc a b : Nat} {ins : Instr} {x : Int} (h : fetch k pc = some (ins, a, b, x)) : (pc, ins, a, b, x) ∈ qcode k := by
  unfold fetch at h
  rw [Option.map_eq_some_iff] at h
  obtain ⟨e, he, h2⟩ := h
  have hm := List.mem_of_find?_eq_some he
  have hp : e.1 = pc := by have := List.find?_some he; simpa using this
  obtain ⟨p0, r⟩ := e
  cases hp; cases h2; exact hm
theorem va_ldcwS {pc : Nat} {ls : Array Slot} {rest : List Value} {H : Heap} {locs : List Loc} {cells slots : Nat} (hexec : p.tables.exec = Jvm.exec) {cc : ByteArray} (hb : c.code = cc) {own tx : String} {index q : Nat} (hown : s.vm.findClass own = some m.cls) (hZ : vk_R own index tx q s) (hdg : decode cc pc = .ok (.ldc_w index, 3))
    (kw : W p l e R s m args below meth c H locs cells slots Q (F0 m (pc + 3) ls (.ref q :: rest))) : W p l e R s m args below meth c H locs cells slots Q (F0 m pc ls rest) := by
  intro T hT X
  obtain ⟨t, a1, b1⟩ := kw T hT X
  refine ⟨t, ?_, b1⟩
  obtain ⟨k1, cf, i, a', hk, hcf, hcp, -, hr, hev'⟩ := Cond.stringRef_spec hown hZ.1
  cases hZ.2.symm.trans hev'
  obtain ⟨k', hk', he⟩ := X.warmed.alike.2.2 _ _ hk
  have hr' : k'.resolved[index]? = some (some (.string q)) := by
    rcases X.warmed.entry hk hk' index with h | ⟨h, -⟩
    · rw [h]; exact hr
    · rw [hr] at h; cases h
  have hdg' : decode c.code (F0 m pc ls rest).pc = .ok (.ldc_w index, 3) := by rw [hb]; exact hdg
  jvm_step X.here [hexec, hdg', ldc_w.wp_string (e := e) (s := T) (f := F0 m pc ls rest) X.here.top hk' (by rw [he]; exact hcf) hcp hr']
  exact a1
theorem c_iinc {i a b pc : Nat} {n x : Int} {ls : Lo} {st : List Value} {h : HS} {f' : Cfg} (hx : p.tables.exec = Jvm.exec) (hb : c.code = qb k) (hd : decode (qb k) pc = .ok (.iinc i n, ln (.iinc i n) a)) (hs : sti (.iinc i n) a b x pc ls st h = some (.inl f'))
    (kk : Goal p l e R s m args below meth c Q g xt n0 s0 k f') : Goal p l e R s m args below meth c Q g xt n0 s0 k (pc, ls, st, h) := by
  unfold sti at hs
  simp only at hs
  split at hs
  · cases hs
  · next ha =>
    have hd' : decode (qb k) pc = .ok (.iinc i n, 3) := by
      unfold ln at hd; simp only at hd; rw [if_neg ha] at hd; exact hd
    split at hs
    · next v hv =>
      cases hs
      intro H locs la hr hlo hLR h1 h2
      have hl : i < qml k := by rw [← hLR.1]; exact (List.getElem?_eq_some_iff.mp hv).1
      have hm : (i, Value.int v) ∈ asl g ls := mem_asl.mpr ⟨.int v, hv, rfl⟩
      obtain ⟨j, hj⟩ := List.getElem?_of_mem hm
      exact lv_iinc (v := v + Int32.ofInt n) hx hb hd' hLR.2 hj rfl hl rfl (fun la' h' => kk H locs la' hr hlo (stl1_ok (v := .int (v + Int32.ofInt n)) hLR.1 h') h1 h2)
    · cases hs
theorem c_obj {i pc : Nat} {ls : Lo} {st : List Value} {h : HS} {f' : Cfg} (C0 : Ctx p s m args meth c g xt k) (hd : decode (qb k) pc = .ok (.invokespecial i, 3)) (hlink : (Cond.methodLink (oN (qo k)) i Lib.objectInit).before args s = true) (hfr : 10 ≤ R.frames ∧ 600 ≤ R.locals) (hs : objF pc ls st h = some (.inl f'))
    (kk : Goal p l e R s m args below meth c Q g xt n0 s0 k f') : Goal p l e R s m args below meth c Q g xt n0 s0 k (pc, ls, st, h) := by
  obtain ⟨hk, hx, hb, hml, hown, hts, hK, -⟩ := id C0
  unfold objF at hs
  split at hs
  · next o r =>
    split at hs
    · next hr4 =>
      cases hs
      intro H locs la hr hlo hLR h1 h2
      have hinst : (Cond.instanceMethod Lib.objectInit).before args s = true := hts _ (tw_of (i := lkO.1) (by decide +kernel) rfl)
      have hcode : (Cond.code Lib.objectInit ⟨#[0xb1]⟩ 1 none).before args s = true := hts _ (tw_of (i := lkO.2) (by decide +kernel) rfl)
      have hsum : ((r.map (emb g)).map fun v => v.category).sum ≤ 8 := by
        have : ∀ (r : List Value), ((r.map (emb g)).map fun v => v.category).sum ≤ 2 * r.length := by
          intro r
          induction r with
          | nil => exact Nat.le_refl _
          | cons v t ih =>
            simp only [List.map_cons, List.sum_cons, List.length_cons]
            have : (emb g v).category ≤ 2 := by cases emb g v <;> simp [Value.category]
            omega
        have := this r
        omega
      exact W.objInit hx hb (own_ok C0) hlink hinst hcode rfl (by rw [hml]; exact hLR.2.1) rfl hd (by omega) (by show 2 * 0 + _ + 12 ≤ _; omega) (kk H locs la hr hlo hLR h1 h2)
    · cases hs
  · cases hs
theorem c_ldc {i a b pc : Nat} {x : Int} {ls : Lo} {st : List Value} {h : HS} {f' : Cfg} (C0 : Ctx p s m args meth c g xt k) (hf : fetch k pc = some (.ldc i, a, b, x)) (hd : decode (qb k) pc = .ok (.ldc i, 2)) (hE : okE k (pc, .ldc i, a, b, x) = true) (hs : sti (.ldc i) a b x pc ls st h = some (.inl f'))
    (kk : Goal p l e R s m args below meth c Q g xt n0 s0 k f') : Goal p l e R s m args below meth c Q g xt n0 s0 k (pc, ls, st, h) := by
  obtain ⟨hk, hx, hb, hml, hown, hts, hK, -⟩ := id C0
  unfold sti at hs
  simp only at hs
  split at hs
  · next hb1 =>
    subst hb1
    have h1 := of_decide_eq_true (List.all_eq_true.mp (lkS_ok k hk) _ (fetch_mem hf))
    obtain ⟨z1, z2, z3, z4⟩ := h1
    have hr := hK.2.2.2.2.2.1 (a - 2) (by omega)
    rw [z3, z4, show 2 + (a - 2) = a by omega] at hr
    have ea : ad g a = gE g a := if_pos (by omega)
    exact c_push (v := .ref a) hs (fun _ _ _ _ _ _ _ kw => va_ldcS hx hb (own_ok C0) hr hd (by rw [emb_ref, ea] at kw; exact kw)) kk
  · next hb1 =>
    unfold okE at hE
    simp only [Bool.or_eq_true, beq_iff_eq] at hE
    rcases hE with z | z
    · exact absurd z hb1
    · exact c_push (v := .int (Int32.ofInt x)) hs (fun _ _ _ _ _ _ _ kw => lv_ldc hx hb (own_ok C0) (hts _ (lkK_ok (oN_ok hk).2 z)) hd kw) kk
theorem c_ldcw {i a b pc : Nat} {x : Int} {ls : Lo} {st : List Value} {h : HS} {f' : Cfg} (C0 : Ctx p s m args meth c g xt k) (hf : fetch k pc = some (.ldc_w i, a, b, x)) (hd : decode (qb k) pc = .ok (.ldc_w i, 3)) (hE : okE k (pc, .ldc_w i, a, b, x) = true) (hs : sti (.ldc_w i) a b x pc ls st h = some (.inl f'))
    (kk : Goal p l e R s m args below meth c Q g xt n0 s0 k f') : Goal p l e R s m args below meth c Q g xt n0 s0 k (pc, ls, st, h) := by
  obtain ⟨hk, hx, hb, hml, hown, hts, hK, -⟩ := id C0
  unfold sti at hs
  simp only at hs
  split at hs
  · next hb1 =>
    subst hb1
    have h1 := of_decide_eq_true (List.all_eq_true.mp (lkS_ok k hk) _ (fetch_mem hf))
    obtain ⟨z1, z2, z3, z4⟩ := h1
    have hr := hK.2.2.2.2.2.1 (a - 2) (by omega)
    rw [z3, z4, show 2 + (a - 2) = a by omega] at hr
    have ea : ad g a = gE g a := if_pos (by omega)
    exact c_push (v := .ref a) hs (fun _ _ _ _ _ _ _ kw => va_ldcwS hx hb (own_ok C0) hr hd (by rw [emb_ref, ea] at kw; exact kw)) kk
  · next hb1 =>
    unfold okE at hE
    simp only [Bool.or_eq_true, beq_iff_eq] at hE
    rcases hE with z | z
    · exact absurd z hb1
    · exact c_push (v := .int (Int32.ofInt x)) hs (fun _ _ _ _ _ _ _ kw => lv_ldcw hx hb (own_ok C0) (hts _ (lkK_ok (oN_ok hk).2 z)) hd kw) kk
theorem sum_le0 (g : GX) (r : List Value) : ((r.map (emb g)).map fun v => v.category).sum ≤ 2 * r.length := by
  induction r with
  | nil => exact Nat.le_refl _
  | cons v t ih =>
    simp only [List.map_cons, List.sum_cons, List.length_cons]
    have : (emb g v).category ≤ 2 := by cases emb g v <;> simp [Value.category]
    omega
theorem c_slen {i pc : Nat} {ls : Lo} {st : List Value} {h : HS} {f' : Cfg} (C0 : Ctx p s m args meth c g xt k) (hd : decode (qb k) pc = .ok (.invokevirtual i, 3)) (hl : lw_tbl[lkX.1]? = some (Cond.methodLink (oN (qo k)) i ⟨"java/lang/String", "length", "()I"⟩) ∨ lw_tbl[lkX.2.1]? = some (Cond.methodLink (oN (qo k)) i ⟨"java/lang/String", "length", "()I"⟩)) (hfr : 10 ≤ R.frames ∧ 600 ≤ R.locals) (hs : slenF pc ls st h = some (.inl f'))
    (hroom : f'.2.2.2.1 - n0 ≤ R.cells ∧ f'.2.2.2.2.1 - s0 ≤ R.slots)
    (kk : Goal p l e R s m args below meth c Q g xt n0 s0 k f') : Goal p l e R s m args below meth c Q g xt n0 s0 k (pc, ls, st, h) := by
  obtain ⟨hk, hx, hb, hml, hown, hts, hK, -⟩ := id C0
  have hlk : Cond.methodLink (oN (qo k)) i yJl ∈ tw := hl.elim (fun z => tw_of z rfl) (fun z => tw_of z rfl)
  unfold slenF at hs
  split at hs
  · next o r =>
    split at hs
    · next h4 =>
      cases hs
      intro H locs la hr hlo hLR h1 h2
      have hr : Rel g xt h H := hr
      obtain ⟨q, hq, rfl, en, -⟩ := str_id hK hr h4.1
      have := sum_le0 g r
      have ea : ad g (2 + q) = gE g (2 + q) := if_pos (by omega)
      have e0 : h.1 - h.1 = 0 := Nat.sub_self _
      have e1 : h.2.1 - h.2.1 = 0 := Nat.sub_self _
      have hroom1 : h.1 - n0 ≤ R.cells := hroom.1
      have hroom2 : h.2.1 - s0 ≤ R.slots := hroom.2
      show W p l e R s m args below meth c H locs (h.1 - n0) (h.2.1 - s0) Q (F0 m pc la (([] : List Value).reverse ++ .ref (ad g (2 + q)) :: r.map (emb g)))
      rw [ea]
      refine jcV (own := oN (qo k)) (yb := qb k) (ml := qml k) (n := 0) (as := []) (C := SJ) ⟨hx, hb, hml, own_ok C0, hts, hK⟩ JB.t trivial (J_len hq) hlk jw_l.1 jw_l.2.1 jw_l.2.2 jw_S.1 (mvj _ (Or.inl rfl)) (by decide +kernel) (by omega) (by omega) hr hlo (jrecv hK hr hq) rfl hLR.2.1 (by omega) hd (fun H1 locs1 hr1 hlo1 => ?_)
      have K := kk H1 locs1 la hr1 hlo1 hLR h1 h2
      rw [e0, e1]
      rw [← en]
      exact K
    · cases hs
  · cases hs
theorem c_sch {i pc : Nat} {ls : Lo} {st : List Value} {h : HS} {f' : Cfg} (C0 : Ctx p s m args meth c g xt k) (hd : decode (qb k) pc = .ok (.invokevirtual i, 3)) (hl : lw_tbl[lkX.2.2.1]? = some (Cond.methodLink (oN (qo k)) i ⟨"java/lang/String", "charAt", "(I)C"⟩) ∨ lw_tbl[lkX.2.2.2.1]? = some (Cond.methodLink (oN (qo k)) i ⟨"java/lang/String", "charAt", "(I)C"⟩)) (hfr : 10 ≤ R.frames ∧ 600 ≤ R.locals) (hs : schF pc ls st h = some (.inl f'))
    (hroom : f'.2.2.2.1 - n0 ≤ R.cells ∧ f'.2.2.2.2.1 - s0 ≤ R.slots)
    (kk : Goal p l e R s m args below meth c Q g xt n0 s0 k f') : Goal p l e R s m args below meth c Q g xt n0 s0 k (pc, ls, st, h) := by
  obtain ⟨hk, hx, hb, hml, hown, hts, hK, -⟩ := id C0
  have hlk : Cond.methodLink (oN (qo k)) i yJa ∈ tw := hl.elim (fun z => tw_of z rfl) (fun z => tw_of z rfl)
  unfold schF at hs
  split at hs
  · next j o r =>
    split at hs
    · next h4 =>
      split at hs
      · cases hs
      · next hin =>
        cases hs
        intro H locs la hr hlo hLR h1 h2
        have hr : Rel g xt h H := hr
        obtain ⟨q, hq, rfl, en, eI⟩ := str_id hK hr h4.1
        rw [en] at hin
        have hjn : j.toNatClampNeg < lenS.getD q 0 := Nat.not_le.mp fun z => hin (Or.inr z)
        have := sum_le0 g r
        have ea : ad g (2 + q) = gE g (2 + q) := if_pos (by omega)
        have e0 : h.1 - h.1 = 0 := Nat.sub_self _
        have e1 : h.2.1 - h.2.1 = 0 := Nat.sub_self _
        have hroom1 : h.1 - n0 ≤ R.cells := hroom.1
        have hroom2 : h.2.1 - s0 ≤ R.slots := hroom.2
        show W p l e R s m args below meth c H locs (h.1 - n0) (h.2.1 - s0) Q (F0 m pc la (([.int j] : List Value).reverse ++ .ref (ad g (2 + q)) :: r.map (emb g)))
        rw [ea]
        refine jcV (own := oN (qo k)) (yb := qb k) (ml := qml k) (n := 1) (as := [.int j]) (C := SJ) ⟨hx, hb, hml, own_ok C0, hts, hK⟩ JB.t trivial (J_chr hq hin) hlk jw_a.1 jw_a.2.1 jw_a.2.2 jw_S.1 (mvj _ (Or.inl rfl)) (by decide +kernel) (by omega) (by omega) hr hlo (jrecv hK hr hq) rfl hLR.2.1 (by omega) hd (fun H1 locs1 hr1 hlo1 => ?_)
        have K := kk H1 locs1 la hr1 hlo1 hLR h1 h2
        rw [e0, e1, ← eI _ hjn]
        exact K
    · cases hs
  · cases hs
theorem c_cpy {i pc : Nat} {ls : Lo} {st : List Value} {h : HS} {f' : Cfg} (C0 : Ctx p s m args meth c g xt k) (hd : decode (qb k) pc = .ok (.invokestatic i, 3)) (hl : lw_tbl[lkX.2.2.2.2]? = some (Cond.methodLink (oN (qo k)) i ⟨"java/util/Arrays", "copyOf", "([II)[I"⟩)) (hfr : 10 ≤ R.frames ∧ 600 ≤ R.locals) (hs : cpyF pc ls st h = some (.inl f'))
    (hroom : f'.2.2.2.1 - n0 ≤ R.cells ∧ f'.2.2.2.2.1 - s0 ≤ R.slots)
    (kk : Goal p l e R s m args below meth c Q g xt n0 s0 k f') : Goal p l e R s m args below meth c Q g xt n0 s0 k (pc, ls, st, h) := by
  obtain ⟨hk, hx, hb, hml, hown, hts, hK, -⟩ := id C0
  have hlk : Cond.methodLink (oN (qo k)) i yJC ∈ tw := tw_of hl rfl
  unfold cpyF at hs
  split at hs
  · next n o r =>
    split at hs
    · next h4 =>
      split at hs
      · cases hs
      · next hin =>
        cases hs
        intro H locs la hr hlo hLR h1 h2
        have hr : Rel g xt h H := hr
        have h1' : n0 ≤ h.1 := h1
        have h2' : s0 ≤ h.2.1 := h2
        have := sum_le0 g r
        have e0 : (hcpy h o n.toNatClampNeg).1 - h.1 = 1 := by show h.1 + 1 - h.1 = 1; omega
        have e1 : (hcpy h o n.toNatClampNeg).2.1 - h.2.1 = n.toNatClampNeg := by show h.2.1 + n.toNatClampNeg - h.2.1 = _; omega
        have hroom1 : h.1 + 1 - n0 ≤ R.cells := hroom.1
        have hroom2 : h.2.1 + n.toNatClampNeg - s0 ≤ R.slots := hroom.2
        show W p l e R s m args below meth c H locs (h.1 - n0) (h.2.1 - s0) Q (F0 m pc la (([.ref (ad g o), .int n] : List Value).reverse ++ r.map (emb g)))
        refine jcS (own := oN (qo k)) (yb := qb k) (ml := qml k) (n := 2) (rs := [.ref (ad g o), .int n]) ⟨hx, hb, hml, own_ok C0, hts, hK⟩ JB.t trivial (J_cpy h4.1 h4.2.2 hin) hlk jw_C.1 jw_C.2.1 jw_C.2.2 (mvj _ (Or.inr (Or.inr (Or.inr rfl)))) (by decide +kernel) (by omega) (by rw [e0, e1]; omega) hr hlo rfl hLR.2.1 (by omega) hd (fun H1 locs1 hr1 hlo1 => ?_)
        have K := kk H1 locs1 la hr1 hlo1 hLR (by show n0 ≤ h.1 + 1; omega) (by show s0 ≤ h.2.1 + n.toNatClampNeg; omega)
        rw [e0, e1]
        have e2 : h.1 - n0 + 1 = h.1 + 1 - n0 := by omega
        have e3 : h.2.1 - s0 + n.toNatClampNeg = h.2.1 + n.toNatClampNeg - s0 := by omega
        rw [e2, e3]
        exact K
    · cases hs
  · cases hs
theorem math_w : Cond.static Lib.Math.abs.name ∈ tw ∧ Cond.code Lib.Math.abs.name Lib.Math.abs.code 1 (some .int) ∈ tw ∧ Cond.static Lib.Math.min.name ∈ tw ∧ Cond.code Lib.Math.min.name Lib.Math.min.code 2 (some .int) ∈ tw ∧ Cond.static Lib.MathLoose.min_long.x ∈ tw ∧ Cond.code Lib.MathLoose.min_long.x Lib.MathLoose.min_long.code 4 (some .long) ∈ tw ∧ Cond.initialized "java/lang/Math" ∈ tw :=
  ⟨tw_of (i := lkMa.getD 1 0) (by decide +kernel) rfl, tw_of (i := lkMa.getD 2 0) (by decide +kernel) rfl, tw_of (i := lkMa.getD 4 0) (by decide +kernel) rfl, tw_of (i := lkMa.getD 5 0) (by decide +kernel) rfl, tw_of (i := lkMa.getD 7 0) (by decide +kernel) rfl, tw_of (i := lkMa.getD 8 0) (by decide +kernel) rfl, tw_of (i := lkJ.getD 15 0) (by decide +kernel) rfl⟩
theorem c_abs {i pc : Nat} {ls : Lo} {st : List Value} {h : HS} {f' : Cfg} (C0 : Ctx p s m args meth c g xt k) (hd : decode (qb k) pc = .ok (.invokestatic i, 3)) (hl : lw_tbl[lkMa.getD 0 0]? = some (Cond.methodLink (oN (qo k)) i Lib.Math.abs.name)) (hfr : 10 ≤ R.frames ∧ 600 ≤ R.locals) (hs : absF pc ls st h = some (.inl f'))
    (hroom : f'.2.2.2.1 - n0 ≤ R.cells ∧ f'.2.2.2.2.1 - s0 ≤ R.slots)
    (kk : Goal p l e R s m args below meth c Q g xt n0 s0 k f') : Goal p l e R s m args below meth c Q g xt n0 s0 k (pc, ls, st, h) := by
  obtain ⟨hk, hx, hb, hml, hown, hts, hK, -⟩ := id C0
  obtain ⟨w1, w2, w3, w4, w5, w6, w7⟩ := math_w
  unfold absF at hs
  split at hs
  · next v r =>
    split at hs
    · next h4 =>
      cases hs
      intro H locs la hr hlo hLR h1 h2
      have := sum_le0 g r
      exact va_mabs hx hb (by rw [hml]; exact hLR.2.1.symm) (own_ok C0) (hts _ (tw_of hl rfl)) (hts _ w1) (hts _ w7) (hts _ w2) (by omega) (by omega) hroom.1 hroom.2 hd (kk H locs la hr hlo hLR h1 h2)
    · cases hs
  · cases hs
theorem c_min {i pc : Nat} {ls : Lo} {st : List Value} {h : HS} {f' : Cfg} (C0 : Ctx p s m args meth c g xt k) (hd : decode (qb k) pc = .ok (.invokestatic i, 3)) (hl : lw_tbl[lkMa.getD 3 0]? = some (Cond.methodLink (oN (qo k)) i Lib.Math.min.name)) (hfr : 10 ≤ R.frames ∧ 600 ≤ R.locals) (hs : minF pc ls st h = some (.inl f'))
    (hroom : f'.2.2.2.1 - n0 ≤ R.cells ∧ f'.2.2.2.2.1 - s0 ≤ R.slots)
    (kk : Goal p l e R s m args below meth c Q g xt n0 s0 k f') : Goal p l e R s m args below meth c Q g xt n0 s0 k (pc, ls, st, h) := by
  obtain ⟨hk, hx, hb, hml, hown, hts, hK, -⟩ := id C0
  obtain ⟨w1, w2, w3, w4, w5, w6, w7⟩ := math_w
  unfold minF at hs
  split at hs
  · next v u r =>
    split at hs
    · next h4 =>
      cases hs
      intro H locs la hr hlo hLR h1 h2
      have := sum_le0 g r
      exact va_mmin hx hb (by rw [hml]; exact hLR.2.1.symm) (own_ok C0) (hts _ (tw_of hl rfl)) (hts _ w3) (hts _ w7) (hts _ w4) (by omega) (by omega) hroom.1 hroom.2 hd (kk H locs la hr hlo hLR h1 h2)
    · cases hs
  · cases hs
theorem c_minL {i pc : Nat} {ls : Lo} {st : List Value} {h : HS} {f' : Cfg} (C0 : Ctx p s m args meth c g xt k) (hd : decode (qb k) pc = .ok (.invokestatic i, 3)) (hl : lw_tbl[lkMa.getD 6 0]? = some (Cond.methodLink (oN (qo k)) i Lib.MathLoose.min_long.x)) (hfr : 10 ≤ R.frames ∧ 600 ≤ R.locals) (hs : minL pc ls st h = some (.inl f'))
    (hroom : f'.2.2.2.1 - n0 ≤ R.cells ∧ f'.2.2.2.2.1 - s0 ≤ R.slots)
    (kk : Goal p l e R s m args below meth c Q g xt n0 s0 k f') : Goal p l e R s m args below meth c Q g xt n0 s0 k (pc, ls, st, h) := by
  obtain ⟨hk, hx, hb, hml, hown, hts, hK, -⟩ := id C0
  obtain ⟨w1, w2, w3, w4, w5, w6, w7⟩ := math_w
  unfold minL at hs
  split at hs
  · next v u r =>
    split at hs
    · next h4 =>
      cases hs
      intro H locs la hr hlo hLR h1 h2
      have := sum_le0 g r
      exact va_mmin_long hx hb (by rw [hml]; exact hLR.2.1.symm) (own_ok C0) (hts _ (tw_of hl rfl)) (hts _ w5) (hts _ w7) (hts _ w6) (by omega) (by omega) hroom.1 hroom.2 hd (kk H locs la hr hlo hLR h1 h2)
    · cases hs
  · cases hs
/-- the library's members that stand as steps: their links -/
def okX (k : Nat) (q : QE) : Bool := match q with
  | (_, .invokevirtual i, _, _, x) => x == 0 || (x == 6 && (decide (lw_tbl[lkX.1]? = some (Cond.methodLink (oN (qo k)) i ⟨"java/lang/String", "length", "()I"⟩)) || decide (lw_tbl[lkX.2.1]? = some (Cond.methodLink (oN (qo k)) i ⟨"java/lang/String", "length", "()I"⟩)))) ||
      (x == 7 && (decide (lw_tbl[lkX.2.2.1]? = some (Cond.methodLink (oN (qo k)) i ⟨"java/lang/String", "charAt", "(I)C"⟩)) || decide (lw_tbl[lkX.2.2.2.1]? = some (Cond.methodLink (oN (qo k)) i ⟨"java/lang/String", "charAt", "(I)C"⟩))))
  | (_, .invokestatic i, _, _, x) => (!(x == 8) || decide (lw_tbl[lkX.2.2.2.2]? = some (Cond.methodLink (oN (qo k)) i ⟨"java/util/Arrays", "copyOf", "([II)[I"⟩))) && (!(x == 9) || decide (lw_tbl[lkMa.getD 0 0]? = some (Cond.methodLink (oN (qo k)) i Lib.Math.abs.name))) && (!(x == 10) || decide (lw_tbl[lkMa.getD 3 0]? = some (Cond.methodLink (oN (qo k)) i Lib.Math.min.name))) && (!(x == 11) || decide (lw_tbl[lkMa.getD 6 0]? = some (Cond.methodLink (oN (qo k)) i Lib.MathLoose.min_long.x)))
  | (_, .invokespecial i, _, _, x) => !(x == 5) || ((lkY.getD (qo k) []).any (fun f => f.1 == i && decide (lw_tbl[f.2]? = some (Cond.methodLink (oN (qo k)) i Lib.objectInit))))
  | _ => true
set_option maxRecDepth 100000 in
theorem ck_X : (List.range 312).all (fun k => (qcode k).all (okX k)) = true := by decide +kernel
theorem callF_no (r : Bool) (k n pc : Nat) (ls : Lo) (st : List Value) (h : HS) {f' : Cfg} : ¬ callF r k n pc ls st h = some (.inl f') := by
  intro hh
  unfold callF at hh
  split at hh
  · split at hh
    · split at hh <;> cases hh
    · split at hh <;> cases hh
    · cases hh
  · cases hh
theorem step_ok {f f' : Cfg} (C0 : Ctx p s m args meth c g xt k) (hfr : 10 ≤ R.frames ∧ 600 ≤ R.locals) (hs : stp k f = some (.inl f')) (hroom : f'.2.2.2.1 - n0 ≤ R.cells ∧ f'.2.2.2.2.1 - s0 ≤ R.slots)
    (kk : Goal p l e R s m args below meth c Q g xt n0 s0 k f') : Goal p l e R s m args below meth c Q g xt n0 s0 k f := by
  obtain ⟨hk, hx, hb, hml, hown, hts, hK, -⟩ := id C0
  obtain ⟨pc, ls, st, h⟩ := f
  unfold stp at hs
  split at hs
  · next ins a b x hf =>
    simp only at hf hs
    obtain ⟨⟨⟨len, hd0⟩, hd⟩, hE⟩ := fetch_ok hk hf
    have hX := List.all_eq_true.mp (List.all_eq_true.mp ck_X k (List.mem_range.mpr hk)) _ (fetch_mem hf)
    cases ins
    case aconst_null => exact c_push (v := .null) hs (fun _ _ _ _ _ _ _ kw => lv_null hx hb (hd rfl) kw) kk
    case iconst n => exact c_push (v := .int (Int32.ofInt n)) hs (fun _ _ _ _ _ _ _ kw => lv_iconst hx hb (hd rfl) rfl kw) kk
    case bipush n => exact c_push (v := .int (Int8.ofInt n).toInt32) hs (fun _ _ _ _ _ _ _ kw => lv_bipush hx hb (hd rfl) rfl kw) kk
    case sipush n => exact c_push (v := .int (Int16.ofInt n).toInt32) hs (fun _ _ _ _ _ _ _ kw => lv_sipush hx hb (hd rfl) rfl kw) kk
    case lconst n => exact c_push (v := .long (Int64.ofNat (n : Nat))) hs (fun _ _ _ _ _ _ _ kw => lv_lconst hx hb (hd rfl) rfl kw) kk
    case iload i => exact c_ldI hs (fun _ _ _ _ _ _ _ hv kw => lv_iload hx hb (hd rfl) hv kw) kk
    case iload_n i => exact c_ldI hs (fun _ _ _ _ _ _ _ hv kw => lv_iload_n hx hb (hd rfl) rfl hv kw) kk
    case lload i => exact c_ldL hs (fun _ _ _ _ _ _ _ hv kw => lv_lload hx hb (hd rfl) hv kw) kk
    case lload_n i => exact c_ldL hs (fun _ _ _ _ _ _ _ hv kw => lv_lload_n hx hb (hd rfl) rfl hv kw) kk
    case aload i => exact c_ldA hs (fun _ _ _ _ _ _ _ hv kw => lv_aload hx hb (hd rfl) hv kw) (fun _ _ _ _ _ _ hv kw => lv_aloadN hx hb (hd rfl) hv kw) kk
    case aload_n i => exact c_ldA hs (fun _ _ _ _ _ _ _ hv kw => lv_aload_n hx hb (hd rfl) rfl hv kw) (fun _ _ _ _ _ _ hv kw => lv_aload_nN hx hb (hd rfl) rfl hv kw) kk
    case istore i => exact c_soI hs (fun _ _ _ _ _ _ _ _ h0 hn kw => lv_istore hx hb (hd rfl) h0 hn rfl kw) kk
    case istore_n i => exact c_soI hs (fun _ _ _ _ _ _ _ _ h0 hn kw => lv_istore_n hx hb (hd rfl) rfl h0 hn rfl kw) kk
    case lstore i => exact c_soL hs (fun _ _ _ _ _ _ _ _ h0 hn kw => lv_lstore hx hb (hd rfl) h0 hn rfl kw) kk
    case lstore_n i => exact c_soL hs (fun _ _ _ _ _ _ _ _ h0 hn kw => lv_lstore_n hx hb (hd rfl) rfl h0 hn rfl kw) kk
    case astore i => exact c_soA hs (fun _ _ _ _ _ _ _ _ h0 hn kw => lv_astore hx hb (hd rfl) h0 hn rfl kw) (fun _ _ _ _ _ _ _ h0 hn kw => lv_astoreN hx hb (hd rfl) h0 hn rfl kw) kk
    case astore_n i => exact c_soA hs (fun _ _ _ _ _ _ _ _ h0 hn kw => lv_astore_n hx hb (hd rfl) rfl h0 hn rfl kw) (fun _ _ _ _ _ _ _ h0 hn kw => lv_astore_nN hx hb (hd rfl) rfl h0 hn rfl kw) kk
    case iinc i n => exact c_iinc hx hb (hd rfl) hs kk
    case iadd => exact c_ii hs (fun _ _ _ _ _ _ _ _ kw => lv_iadd hx hb (hd rfl) kw) kk
    case isub => exact c_ii hs (fun _ _ _ _ _ _ _ _ kw => lv_isub hx hb (hd rfl) kw) kk
    case imul => exact c_ii hs (fun _ _ _ _ _ _ _ _ kw => lv_imul hx hb (hd rfl) kw) kk
    case iand => exact c_ii hs (fun _ _ _ _ _ _ _ _ kw => lv_iand hx hb (hd rfl) kw) kk
    case ior => exact c_ii hs (fun _ _ _ _ _ _ _ _ kw => lv_ior hx hb (hd rfl) kw) kk
    case ixor => exact c_ii hs (fun _ _ _ _ _ _ _ _ kw => lv_ixor hx hb (hd rfl) kw) kk
    case ishl => exact c_ii hs (fun _ _ _ _ _ _ _ _ kw => lv_ishl hx hb (hd rfl) kw) kk
    case ishr => exact c_ii hs (fun _ _ _ _ _ _ _ _ kw => lv_ishr hx hb (hd rfl) kw) kk
    case iushr => exact c_ii hs (fun _ _ _ _ _ _ _ _ kw => lv_iushr hx hb (hd rfl) rfl kw) kk
    case idiv => exact c_iiC hs (fun _ _ _ _ _ _ _ _ hy kw => lv_idiv hx hb (hd rfl) hy kw) kk
    case irem => exact c_iiC hs (fun _ _ _ _ _ _ _ _ hy kw => lv_irem hx hb (hd rfl) hy kw) kk
    case ineg => exact c_i hs (fun _ => rfl) (fun _ _ _ _ _ _ _ kw => lv_ineg hx hb (hd rfl) kw) kk
    case i2l => exact c_i hs (fun _ => rfl) (fun _ _ _ _ _ _ _ kw => lv_i2l hx hb (hd rfl) rfl kw) kk
    case i2b => exact c_i hs (fun _ => rfl) (fun _ _ _ _ _ _ _ kw => lv_i2b hx hb (hd rfl) rfl kw) kk
    case i2s => exact c_i hs (fun _ => rfl) (fun _ _ _ _ _ _ _ kw => lv_i2s hx hb (hd rfl) rfl kw) kk
    case ladd => exact c_ll hs (fun _ _ _ _ _ _ _ _ kw => lv_ladd hx hb (hd rfl) kw) kk
    case lsub => exact c_ll hs (fun _ _ _ _ _ _ _ _ kw => lv_lsub hx hb (hd rfl) kw) kk
    case lmul => exact c_ll hs (fun _ _ _ _ _ _ _ _ kw => lv_lmul hx hb (hd rfl) kw) kk
    case land => exact c_ll hs (fun _ _ _ _ _ _ _ _ kw => lv_land hx hb (hd rfl) kw) kk
    case lor => exact c_ll hs (fun _ _ _ _ _ _ _ _ kw => lv_lor hx hb (hd rfl) kw) kk
    case lxor => exact c_ll hs (fun _ _ _ _ _ _ _ _ kw => lv_lxor hx hb (hd rfl) kw) kk
    case lshl => exact c_ls hs (fun _ _ _ _ _ _ _ _ kw => lv_lshl hx hb (hd rfl) rfl kw) kk
    case lshr => exact c_ls hs (fun _ _ _ _ _ _ _ _ kw => lv_lshr hx hb (hd rfl) rfl kw) kk
    case lushr => exact c_ls hs (fun _ _ _ _ _ _ _ _ kw => lv_lushr hx hb (hd rfl) rfl kw) kk
    case l2i => 
      unfold sti at hs
      simp only at hs
      split at hs
      · cases hs
        intro H locs la hr hlo hLR h1 h2
        exact lv_l2i hx hb (hd rfl) rfl (kk H locs la hr hlo hLR h1 h2)
      · cases hs
    case lcmp => 
      unfold sti at hs
      simp only at hs
      split at hs
      · cases hs
        intro H locs la hr hlo hLR h1 h2
        exact W.lcmp hx hb (hd rfl) (kk H locs la hr hlo hLR h1 h2)
      · cases hs
    case dup => exact c_dup hx hb (hd rfl) hs kk
    case dup_x1 => exact c_dupx1 hx hb (hd rfl) hs kk
    case dup2 => exact c_dup2 hx hb (hd rfl) hs kk
    case pop => exact c_pop hx hb (hd rfl) hs kk
    case goto off => 
      cases hs
      intro H locs la hr hlo hLR h1 h2
      exact lv_goto hx hb (hd rfl) (of_decide_eq_true hE) (kk H locs la hr hlo hLR h1 h2)
    case ifCond cc off => exact c_brI hx hb (hd rfl) hE hs kk
    case if_icmp cc off => exact c_brII hx hb (hd rfl) hE hs kk
    case ifnull off => exact c_null (isN := true) hx hb (hd rfl) (of_decide_eq_true hE) hs kk
    case ifnonnull off => exact c_null (isN := false) hx hb (hd rfl) (of_decide_eq_true hE) hs kk
    case tableswitch d0 lo hi offs => exact c_sw hx hb hd0 hs kk
    case lookupswitch d0 ps => exact c_look hx hb hd0 hs kk
    case getfield i => exact c_get C0 (hd rfl) hE hs kk
    case putfield i => exact c_put C0 (hd rfl) hE hs kk
    case iaload => 
      refine c_aldI hK hs (Or.inl ⟨rfl, rfl⟩) (fun o i ty cell v rest H locs cells slots la y1 y2 y3 y4 y5 y6 kw => ?_) kk
      have ey : ty = .int := by
        rcases y3 with z | ⟨z, -⟩ | ⟨z, -⟩
        · rw [z]; rfl
        · exact absurd rfl z
        · exact z
      subst ey
      exact W.iald hx hb y1 y2 y4 y5 y6 rfl rfl (hd rfl) kw
    case baload => 
      refine c_aldI hK hs (Or.inr ⟨rfl, rfl⟩) (fun o i ty cell v rest H locs cells slots la y1 y2 y3 y4 y5 y6 kw => ?_) kk
      rcases y3 with z | ⟨-, z⟩ | ⟨-, z⟩
      · subst z; exact W.bald hx hb y1 y2 y4 y5 y6 rfl rfl (hd rfl) kw
      · subst z; exact W.zald hx hb y1 y2 y4 y5 y6 rfl rfl (hd rfl) kw
      · exact absurd z (by decide)
    case laload => exact c_aldL hx hb (hd rfl) hK hs kk
    case aaload => exact c_aldR hx hb (hd rfl) hK hs kk
    case iastore => exact c_astI hx hb (hd rfl) hK hs kk
    case bastore => exact c_astB hx hb (hd rfl) hK hs kk
    case lastore => exact c_astL hx hb (hd rfl) hK hs kk
    case aastore => exact c_astR hx hb (hd rfl) hK hs kk
    case arraylength => exact c_alen hx hb (hd rfl) hK hs kk
    case newarray t => exact c_newA C0 (hd rfl) hE hs hroom kk
    case anewarray i => exact c_newR C0 (hd rfl) hE hs hroom kk
    case new i => 
      cases hs
      exact c_new C0 (hd rfl) hE hroom kk
    case getstatic i => 
      refine c_push (v := .ref 0) hs (fun rest H locs cells slots la hr kw => ?_) kk
      unfold okE at hE
      simp only [Bool.and_eq_true, beq_iff_eq] at hE
      obtain ⟨e1, e2⟩ := hE
      subst e1
      have hZ := hK.2.2.2.1
      have hN := hK.2.1 (Cond.fieldLinkNest R3 117 R11 "FACTORIALS" "[I" R11) (List.mem_filter.mpr ⟨List.mem_of_getElem? (i := lkZ) (by decide +kernel), rfl⟩)
      have hown' := own_ok C0
      rw [e2] at hown'
      obtain ⟨cf, kf, fi, f, aa, cell, w1, w2, w3, w4, w5, w6, w7, w8⟩ := hZ
      have ea : ad g 0 = gE g 0 := rfl
      refine va_WgetsN hx hb hown' (va_Nw.use rfl hN) w1 w2 w3 w4 (by rw [hr.2.2.2.2.1 aa (Nat.lt_of_not_le w8)]; exact w5) (fun z => by rw [z] at w6; cases w6) w7 rfl (hd rfl) ?_
      exact kw
    case ldc i => exact c_ldc C0 hf (hd rfl) hE hs kk
    case ldc_w i => exact c_ldcw C0 hf (hd rfl) hE hs kk
    case ldc2_w i => exact c_push (v := .long (Int64.ofInt x)) hs (fun _ _ _ _ _ _ _ kw => lv_ldc2 hx hb (own_ok C0) (hts _ (lkK2_ok (oN_ok hk).2 hE)) (hd rfl) kw) kk
    case invokevirtual i => 
      unfold sti at hs
      simp only at hs
      unfold okX at hX
      simp only [Bool.or_eq_true, Bool.and_eq_true, beq_iff_eq, decide_eq_true_eq] at hX
      split at hs
      · next z => exact absurd hs (callF_no _ _ _ _ _ _ _)
      · next z =>
        split at hs
        · next z6 =>
          rcases hX with (w | w) | w
          · exact absurd w z
          · exact c_slen C0 (hd rfl) w.2 hfr hs hroom kk
          · exact absurd (z6.symm.trans w.1) (by decide)
        · split at hs
          · next z7 =>
            rcases hX with (w | w) | w
            · exact absurd w z
            · exact absurd (z7.symm.trans w.1) (by decide)
            · exact c_sch C0 (hd rfl) w.2 hfr hs hroom kk
          · cases hs
    case invokestatic i =>
      unfold sti at hs
      simp only at hs
      unfold okX at hX
      simp only [Bool.or_eq_true, Bool.and_eq_true, Bool.not_eq_true', beq_eq_false_iff_ne, decide_eq_true_eq] at hX
      obtain ⟨⟨⟨hX8, hX9⟩, hX10⟩, hX11⟩ := hX
      split at hs
      · exact absurd hs (callF_no _ _ _ _ _ _ _)
      · split at hs
        · next z8 => exact c_cpy C0 (hd rfl) (hX8.resolve_left (fun w => w z8)) hfr hs hroom kk
        · split at hs
          · next z9 => exact c_abs C0 (hd rfl) (hX9.resolve_left (fun w => w z9)) hfr hs hroom kk
          · split at hs
            · next z10 => exact c_min C0 (hd rfl) (hX10.resolve_left (fun w => w z10)) hfr hs hroom kk
            · split at hs
              · next z11 => exact c_minL C0 (hd rfl) (hX11.resolve_left (fun w => w z11)) hfr hs hroom kk
              · cases hs
    case invokespecial i => 
      unfold sti at hs
      simp only at hs
      unfold okX at hX
      simp only [Bool.or_eq_true, Bool.not_eq_true', beq_eq_false_iff_ne] at hX
      split at hs
      · exact absurd hs (callF_no _ _ _ _ _ _ _)
      · split at hs
        · next z5 =>
          rcases hX with w | w
          · exact absurd z5 w
          · obtain ⟨f, hf1, hf2⟩ := List.any_eq_true.mp w
            simp only [Bool.and_eq_true, decide_eq_true_eq] at hf2
            exact c_obj C0 (hd rfl) (hts _ (tw_of hf2.2 rfl)) hfr hs kk
        · cases hs
    case ireturn => exact absurd hs (by unfold sti retI; simp only; repeat (split <;> simp))
    case lreturn => exact absurd hs (by unfold sti retL; simp only; repeat (split <;> simp))
    case areturn => exact absurd hs (by unfold sti retA; simp only; repeat (split <;> simp))
    case return_ => exact absurd hs (by unfold sti retV; simp only; repeat (split <;> simp))
    all_goals (exact absurd hs (by simp [sti]))
  · cases hs
end S2
