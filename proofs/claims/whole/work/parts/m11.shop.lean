/-! the heap's instructions -/
section SH
variable {p : Program} {l : Launch} {e : Env} {R : Room} {s : State} {m : MethodId} {args : Array Value} {below : List Frame} {meth : Method} {c : Code} {Q : State → Prop}
variable {g : GX} {xt : XT} {n0 s0 k : Nat}
theorem ks_arr (hK : KS g xt s) {t : Nat} (ht : 20 ≤ t ∧ t < 28) : ArrOfT s (gA g (t - 20)) (tyA t) ∧ va_RA s (gA g (t - 20)) (tyA t) := by
  have h := hK.1.2 (t - 20) (gA g (t - 20), tyA t) ?_
  · exact h
  · unfold tyL
    rw [List.getElem?_map, List.getElem?_range (by omega)]
    simp only [Option.map_some]
    rw [show 20 + (t - 20) = t by omega]
theorem own_ok (C0 : Ctx p s m args meth c g xt k) : s.vm.findClass (oN (qo k)) = some m.cls := by
  rw [(oN_ok C0.1).1]; exact C0.2.2.2.2.1
theorem c_get {i a b pc : Nat} {x : Int} {ls : Lo} {st : List Value} {h : HS} {f' : Cfg} (C0 : Ctx p s m args meth c g xt k) (hd : decode (qb k) pc = .ok (.getfield i, 3)) (hE : okE k (pc, .getfield i, a, b, x) = true) (hs : getF a b x pc ls st h = some (.inl f'))
    (kk : Goal p l e R s m args below meth c Q g xt n0 s0 k f') : Goal p l e R s m args below meth c Q g xt n0 s0 k (pc, ls, st, h) := by
  obtain ⟨hk, hx, hb, hml, hown, hts, hK, -⟩ := id C0
  unfold okE at hE
  simp only [Bool.and_eq_true, decide_eq_true_eq] at hE
  obtain ⟨⟨⟨hl, ha⟩, hbF⟩, hty⟩ := hE
  have hlink := hts _ (lkF_ok (oN_ok hk).2 hl)
  unfold getF at hs
  split at hs
  · next o r =>
    split at hs
    · next hT' =>
      intro H locs la hr hlo hL h1 h2
      have hP : va_P (gD g) clsL [(ad g o, .inr (a, flds g h o a))] H := fun j q hq => by
        have hz : j < 1 := (List.getElem?_eq_some_iff.mp hq).1
        rw [show j = 0 by omega] at hq
        cases hq
        have := hr.obj (show hT h o < 13 by omega)
        rw [hT'] at this
        exact this
      have hv : ∀ w, fvl g h o (cY a b) b = emb g w → W p l e R s m args below meth c H locs (h.1 - n0) (h.2.1 - s0) Q (F0 m (pc + 3) la (emb g w :: r.map (emb g))) → W p l e R s m args below meth c H locs (h.1 - n0) (h.2.1 - s0) Q (F0 m pc la (emb g (.ref o) :: r.map (emb g))) := fun w ew kw =>
        va_get (ci := a) (T := cT a) (N := cF a) (C := cN a) (ref := cN a) hx hb hts (cls_lay ha) (own_ok C0) hK.1 hP 0 (fs := flds g h o a) rfl (cls_at ha) b hbF hlink (fun y hy => by
          have hn : (cT a b).1 = cN a := by
            have hq : ∀ a, a < 13 → ∀ b, b < cF a → (cT a b).1 = cN a := by decide +kernel
            exact hq a ha b hbF
          rw [hn] at hy; exact hy) (v := emb g w) (by rw [flds_get hbF, ew]) hd kw
      split at hs
      · next hx2 =>
        cases hs
        refine hv _ ?_ (kk H locs la hr hlo hL h1 h2)
        rw [emb_rf]
        unfold okTy at hty
        subst hx2
        cases hc : cY a b <;> rw [hc] at hty <;> first | rfl | (simp at hty)
      · next hx2 =>
        cases hs
        refine hv _ ?_ (kk H locs la hr hlo hL h1 h2)
        unfold okTy at hty
        cases hc : cY a b <;> rw [hc] at hty <;> first | rfl | (simp at hty; done) | (simp at hty; exact absurd hty hx2)
    · cases hs
  · cases hs
/-- a field's store, at the machine -/
theorem x_put {a b i pc o : Nat} {v : Value} {h h' : HS} {H : Heap} {locs : List Loc} {la : Array Slot} {cells slots : Nat} {rest : List Value} (C0 : Ctx p s m args meth c g xt k) (hd : decode (qb k) pc = .ok (.putfield i, 3))
    (ha : a < 13) (hbF : b < cF a) (hlink : (Cond.fieldLink (oN (qo k)) i (cN a) (cT a b).2.1 (cT a b).2.2.1).before args s = true) (hfin : (cT a b).2.2.2 = true → (qy k).name = "<init>" ∧ qo k = a) (hn : narrow (cY a b) v = v) (hfit : fits (cY a b) v = true)
    (hr : Rel g xt h H) (hT' : hT h o = a) (h1 : h'.1 = h.1) (eT : hT h' = hT h) (eN : hN h' = hN h)
    (es : ∀ i, i ≠ o → (∀ k, hI h' i k = hI h i k) ∧ (∀ k, hL h' i k = hL h i k) ∧ (∀ k, hR h' i k = hR h i k)) (ef : flds g h' o a = (flds g h o a).set b v)
    (kk : ∀ (H1 : Heap) (j : Nat), Rel g xt h' H1 → W p l e R s m args below meth c H1 (locs ++ [⟨ad g o, j⟩]) cells slots Q (F0 m (pc + 3) la rest)) : W p l e R s m args below meth c H locs cells slots Q (F0 m pc la (v :: .ref (ad g o) :: rest)) := by
  obtain ⟨hk, hx, hb, hml, hown, hts, hK, hini⟩ := id C0
  have hin := cls_lay ha
  have hc := cls_at ha
  have hap := va_apart (own := cN a) hts hin (cY a) (cls_ty ha) (cls_nm ha) hK.1 hc
  have hob := hr.obj (show hT h o < 13 by omega)
  rw [hT'] at hob
  obtain ⟨r, g1, cell, q1, q2, q3, q4⟩ := hob
  have hr' : r = (cN a, cT a, cF a) := Option.some.inj (g1.symm.trans hc)
  subst hr'
  obtain ⟨hS, hfc, kC, hkC, hkind⟩ := hK.1.1 a _ hc
  obtain ⟨cf, kf, fi, f, hi, hsl⟩ := hS b hbF
  have hN1 : (cT a b).1 = cN a := by
    have hq : ∀ a, a < 13 → ∀ b, b < cF a → (cT a b).1 = cN a := by decide +kernel
    exact hq a ha b hbF
  have hst := (u_facts hfc hkC (u_lays hts hin hbF) hi).1
  have hi' : s.fieldFound? (cN a) (cT a b).2.1 (cT a b).2.2.1 = some (cf, kf, fi, f) := by rw [← hN1]; exact hi
  have fin : ∀ (H' : Heap) , H'[ad g o]? = some (cell.setSlot f.slot v) → H'.size = H.size → (∀ q, q ≠ ad g o → H'[q]? = H[q]?) → Rel g xt h' H' := by
    intro H' e1 e2 e3
    refine hr.upd (show hT h o < 28 by omega) h1 eT eN es e2 e3 ?_
    have hl : b < (flds g h o a).length := by rw [flds_len]; exact hbF
    have : va_at (gD g) clsL (ad g o, .inr (a, (flds g h o a).set b v)) H' := by
      rw [hsl] at e1
      exact ⟨_, hc, t_OB.to (V := updV (vp_V (flds g h o a)) b v) ⟨_, e1, q2, q3, t_set q4 hap hbF v⟩ (fun j _ => vp_updV_set hl v j)⟩
    unfold cellE
    rw [eT, hT', if_pos ha, ef]
    exact this
  by_cases hF : (cT a b).2.2.2 = true
  · obtain ⟨z1, z2⟩ := hfin hF
    have hlay := hts _ (hin _ (u_in_lay hbF))
    unfold u_lay at hlay
    rw [if_pos hF] at hlay
    have h6 := u_fits hfc hkC hkind (Or.inr hlay) hi (cls_ty ha b hbF) hn hfit
    have hcf : m.cls = cf := by
      obtain ⟨_, _, c', _, _, _, -, -, hf', -, -, -, hown2, -⟩ := Cond.laysFinal_spec hlay
      have e1 : c' = cf := by have := hi.symm.trans hf'; simp at this; exact this.1.symm
      have hcls := own_ok C0
      have hoN : oN a = cN a := by
        have hq : ∀ a, a < 13 → oN a = cN a := by decide +kernel
        exact hq a ha
      rw [z2, hoN] at hcls
      rw [hN1] at hown2
      rw [← e1]; exact Option.some.inj (hcls.symm.trans hown2)
    exact W.putFinK hx hb (own_ok C0) hlink hi' hst hcf (hini z1) (by rw [q2]; exact h6) q1 q3 (by rw [hsl]; exact k2_hasslot (q4 b hbF)) rfl rfl hd fun H' e1 e2 e3 => kk H' _ (fin H' e1 e2 e3)
  · have hF' : (cT a b).2.2.2 = false := by cases hh : (cT a b).2.2.2 <;> simp_all
    have hlay := hts _ (hin _ (u_in_lay hbF))
    unfold u_lay at hlay
    rw [if_neg hF] at hlay
    have h6 := u_store hfc hkC hkind hlay hi (cls_ty ha b hbF) hn hfit
    exact W.putK hx hb (f := f) ⟨own_ok C0, hlink, ⟨_, _, _, hi'⟩, hst⟩ (by rw [q2]; exact h6) q1 q3 (by rw [hsl]; exact k2_hasslot (q4 b hbF)) rfl rfl hd fun H' e1 e2 e3 => kk H' _ (fin H' e1 e2 e3)
theorem c_put {i a b pc : Nat} {x : Int} {ls : Lo} {st : List Value} {h : HS} {f' : Cfg} (C0 : Ctx p s m args meth c g xt k) (hd : decode (qb k) pc = .ok (.putfield i, 3)) (hE : okE k (pc, .putfield i, a, b, x) = true) (hs : putF a b x pc ls st h = some (.inl f'))
    (kk : Goal p l e R s m args below meth c Q g xt n0 s0 k f') : Goal p l e R s m args below meth c Q g xt n0 s0 k (pc, ls, st, h) := by
  obtain ⟨hk, hx, hb, hml, hown, hts, hK, -⟩ := id C0
  unfold okE at hE
  simp only [Bool.and_eq_true, decide_eq_true_eq, Bool.or_eq_true, Bool.not_eq_true', beq_iff_eq] at hE
  obtain ⟨⟨⟨⟨hl, ha⟩, hbF⟩, hty⟩, hfin⟩ := hE
  have hlink := hts _ (lkF_ok (oN_ok hk).2 hl)
  have hfin' : (cT a b).2.2.2 = true → (qy k).name = "<init>" ∧ qo k = a := fun h => by
    rcases hfin with z | z
    · rw [h] at z; cases z
    · exact z
  have locs_ok : ∀ (locs : List Loc) (o j : Nat), 32 ≤ o → (∀ q ∈ locs, gb g ≤ q.base) → ∀ q ∈ locs ++ [(⟨ad g o, j⟩ : Loc)], gb g ≤ q.base := by
    intro locs o j ho hq q hm
    rcases List.mem_append.mp hm with z | z
    · exact hq q z
    · rw [List.mem_singleton.mp z, ad_lt ho]; exact Nat.le_add_right _ _
  unfold putF at hs
  split at hs
  · next v o r =>
    split at hs
    · next hT' =>
      split at hs
      · next hx01 =>
        cases hs
        intro H locs la hr hlo hL h1 h2
        have hy : cY a b = .int ∨ (cY a b = .boolean ∧ (v = 0 ∨ v = 1)) := by
          unfold okTy at hty
          rcases hx01 with z | ⟨z, w⟩
          · left; subst z
            cases hc : cY a b <;> rw [hc] at hty <;> first | rfl | (simp at hty)
          · right; subst z
            refine ⟨?_, w⟩
            cases hc : cY a b <;> rw [hc] at hty <;> first | rfl | (simp at hty)
        refine x_put (v := .int v) (o := o) (b := b) C0 hd ha hbF hlink hfin' ?_ ?_ hr hT' (h' := hsI h o b v) rfl rfl rfl (fun j hj => ⟨fun z => if_neg (fun w => hj w.1), fun _ => rfl, fun _ => rfl⟩) (flds_I hbF (by rcases hy with z | z; exact Or.inl z; exact Or.inr z.1)) fun H1 j hr1 => kk H1 _ la hr1 (locs_ok locs o j (hr.own (show hT h o < 28 by omega)).1 hlo) hL h1 h2
        · rcases hy with z | ⟨z, w | w⟩ <;> rw [z] <;> first | rfl | (subst w; rfl)
        · rcases hy with z | ⟨z, w | w⟩ <;> rw [z] <;> first | rfl | (subst w; rfl)
      · cases hs
    · cases hs
  · next v o r =>
    split at hs
    · next hT' =>
      split at hs
      · next hx2 =>
        cases hs
        intro H locs la hr hlo hL h1 h2
        have hy : (∃ t, cY a b = .object t) ∨ (∃ t, cY a b = .array t) := by
          unfold okTy at hty
          subst hx2
          cases hc : cY a b <;> rw [hc] at hty <;> first | exact Or.inl ⟨_, rfl⟩ | exact Or.inr ⟨_, rfl⟩ | (exact absurd hty (by decide))
        refine x_put (v := .ref (ad g v)) (o := o) (b := b) C0 hd ha hbF hlink hfin' ?_ ?_ hr hT' (h' := hsR h o b (some v)) rfl rfl rfl (fun j hj => ⟨fun _ => rfl, fun _ => rfl, fun z => if_neg (fun w => hj w.1)⟩) (flds_R hbF (by rcases hy with ⟨t, z⟩ | ⟨t, z⟩ <;> rw [z] <;> exact fun _ => rfl)) fun H1 j hr1 => kk H1 _ la hr1 (locs_ok locs o j (hr.own (show hT h o < 28 by omega)).1 hlo) hL h1 h2
        · rcases hy with ⟨t, z⟩ | ⟨t, z⟩ <;> rw [z] <;> rfl
        · rcases hy with ⟨t, z⟩ | ⟨t, z⟩ <;> rw [z] <;> rfl
      · cases hs
    · cases hs
  · next o r =>
    split at hs
    · next hT' =>
      split at hs
      · next hx2 =>
        cases hs
        intro H locs la hr hlo hL h1 h2
        have hy : (∃ t, cY a b = .object t) ∨ (∃ t, cY a b = .array t) := by
          unfold okTy at hty
          subst hx2
          cases hc : cY a b <;> rw [hc] at hty <;> first | exact Or.inl ⟨_, rfl⟩ | exact Or.inr ⟨_, rfl⟩ | (exact absurd hty (by decide))
        refine x_put (v := .null) (o := o) (b := b) C0 hd ha hbF hlink hfin' ?_ ?_ hr hT' (h' := hsR h o b none) rfl rfl rfl (fun j hj => ⟨fun _ => rfl, fun _ => rfl, fun z => if_neg (fun w => hj w.1)⟩) (flds_R hbF (by rcases hy with ⟨t, z⟩ | ⟨t, z⟩ <;> rw [z] <;> exact fun _ => rfl)) fun H1 j hr1 => kk H1 _ la hr1 (locs_ok locs o j (hr.own (show hT h o < 28 by omega)).1 hlo) hL h1 h2
        · rcases hy with ⟨t, z⟩ | ⟨t, z⟩ <;> rw [z] <;> rfl
        · rcases hy with ⟨t, z⟩ | ⟨t, z⟩ <;> rw [z] <;> rfl
      · cases hs
    · cases hs
  · cases hs
end SH
