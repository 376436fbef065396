/-! arrays, new cells, jumps by a value -/
section SA
variable {p : Program} {l : Launch} {e : Env} {R : Room} {s : State} {m : MethodId} {args : Array Value} {below : List Frame} {meth : Method} {c : Code} {Q : State → Prop}
variable {g : GX} {xt : XT} {n0 s0 k : Nat}
theorem locs_more {locs : List Loc} {o j : Nat} (ho : 32 ≤ o) (hq : ∀ q ∈ locs, gb g ≤ q.base) : ∀ q ∈ locs ++ [(⟨ad g o, j⟩ : Loc)], gb g ≤ q.base := by
  intro q hm
  rcases List.mem_append.mp hm with z | z
  · exact hq q z
  · rw [List.mem_singleton.mp z, ad_lt ho]; exact Nat.le_add_right _ _
theorem rel_ext {h : HS} {H : Heap} {o : Nat} (hK : KS g xt s) (hr : Rel g xt h H) (ht : hT h o = 40) : va_T .int (ad g o) (hN h o) (fun j => .int (hI h o j)) (fun q => gb g ≤ q) s H := by
  obtain ⟨r1, r2, r3, r4, r5, r6⟩ := hr
  have ho : o < 32 := by
    rcases Nat.lt_or_ge o 32 with q | q
    · exact q
    · rcases Nat.lt_or_ge o h.1 with q2 | q2
      · have := (r3 o q q2).2; omega
      · rw [r4 o q2] at ht; omega
  obtain ⟨a, b, d, -⟩ := r6 o ho
  have x2 := hK.2.2.1 o ho (a.symm.trans ht)
  have e : ad g o = gE g o := if_pos ho
  have e2 : (fun j => Value.int (xt.2.2 o j)) = (fun j => Value.int (hI h o j)) := funext (fun z => by rw [d z])
  rw [e, b, ← e2]
  exact x2.kept (fun q _ hq => r5 q (Nat.lt_of_not_le hq))
theorem c_aldI {t u pc : Nat} {ls : Lo} {st : List Value} {h : HS} {f' : Cfg} (hK : KS g xt s) (hs : aldI t u pc ls st h = some (.inl f')) (htu : (t = 20 ∧ u = 40) ∨ (t = 21 ∧ u = 22))
    (row : ∀ (o : Nat) (i : Int32) (ty : FieldType) (cell : Cell) (v : Value) (rest : List Value) (H : Heap) (locs : List Loc) (cells slots : Nat) (la : Array Slot), H[o]? = some cell → s.isArrayOf cell ty → ty = tyA t ∨ (u ≠ 40 ∧ ty = tyA u) ∨ ty = .int ∧ t = 20 → cell.vm ≠ .unknown → ¬ (i < 0 ∨ cell.slots.size ≤ i.toNatClampNeg) → cell.slots[i.toNatClampNeg]? = some v → W p l e R s m args below meth c H locs cells slots Q (F0 m (pc + 1) la (v :: rest)) → W p l e R s m args below meth c H locs cells slots Q (F0 m pc la (.int i :: .ref o :: rest)))
    (kk : Goal p l e R s m args below meth c Q g xt n0 s0 k f') : Goal p l e R s m args below meth c Q g xt n0 s0 k (pc, ls, st, h) := by
  unfold aldI at hs
  split at hs
  · next i o r =>
    split at hs
    · next ht =>
      split at hs
      · cases hs
      · next hin =>
        cases hs
        intro H locs la hr hlo hLR h1 h2
        have hr : Rel g xt h H := hr
        have hlt : i.toNatClampNeg < hN h o := Nat.not_le.mp fun q => hin (Or.inr q)
        by_cases h40 : hT h o = 40
        · obtain ⟨scr, y1, y2, y3, y4, y5, y6, -⟩ := rel_ext hK hr h40
          exact row (ad g o) i .int scr (.int (hI h o i.toNatClampNeg)) _ H locs _ _ la y1 y2 (Or.inr (Or.inr ⟨rfl, by omega⟩)) y3 (fun q => hin (q.imp id (fun z => Nat.le_trans y4 z))) (y6 _ hlt) (kk H locs la hr hlo hLR h1 h2)
        · have hb1 : 20 ≤ hT h o ∧ hT h o < 23 := by omega
          have hc := hr.arr hb1.1 (by omega)
          rw [arrE_i hb1] at hc
          have hA := (ks_arr hK (show 20 ≤ hT h o ∧ hT h o < 28 by omega)).1
          refine row (ad g o) i (tyA (hT h o)) _ (.int (hI h o i.toNatClampNeg)) _ H locs _ _ la hc (hA (hN h o) (fun j => .int (hI h o j))) ?_ (fun q => by cases q) (by show ¬ (i < 0 ∨ (arrV _ _ _).slots.size ≤ _); rw [arrV_size]; exact hin) (by show (arrV _ _ _).slots[_]? = _; rw [arrV_read _ _ hlt]) (kk H locs la hr hlo hLR h1 h2)
          rcases ht with z | z
          · exact Or.inl (by rw [z])
          · exact Or.inr (Or.inl ⟨fun w => h40 (z.trans w), by rw [z]⟩)
    · cases hs
  · cases hs
theorem c_aldL {pc : Nat} {ls : Lo} {st : List Value} {h : HS} {f' : Cfg} (hx : p.tables.exec = Jvm.exec) (hb : c.code = qb k) (hd : decode (qb k) pc = .ok (.laload, 1)) (hK : KS g xt s) (hs : aldL pc ls st h = some (.inl f'))
    (kk : Goal p l e R s m args below meth c Q g xt n0 s0 k f') : Goal p l e R s m args below meth c Q g xt n0 s0 k (pc, ls, st, h) := by
  unfold aldL at hs
  split at hs
  · next i o r =>
    split at hs
    · next ht =>
      split at hs
      · cases hs
      · next hin =>
        cases hs
        intro H locs la hr hlo hLR h1 h2
        have hr : Rel g xt h H := hr
        have hlt : i.toNatClampNeg < hN h o := Nat.not_le.mp fun q => hin (Or.inr q)
        have hc := hr.arr (show 20 ≤ hT h o by omega) (by omega)
        have hA := (ks_arr hK (show 20 ≤ hT h o ∧ hT h o < 28 by omega)).1
        rw [ht] at hc hA
        rw [arrE_l] at hc
        exact W.lald (v := .long (hL h o i.toNatClampNeg)) hx hb hc (hA (hN h o) (fun j => .long (hL h o j))) (fun q => by cases q) (by show ¬ (i < 0 ∨ (arrV _ _ _).slots.size ≤ _); rw [arrV_size]; exact hin) (by show (arrV _ _ _).slots[_]? = _; rw [arrV_read _ _ hlt]) rfl rfl hd (kk H locs la hr hlo hLR h1 h2)
    · cases hs
  · cases hs
def okDef (t : FieldType) : Bool := match t with
  | .int => true
  | .boolean => true
  | .object _ => true
  | .array _ => true
  | _ => false
theorem tyA_obj {t : Nat} (h : t = 24 ∨ t = 25 ∨ t = 26 ∨ t = 27) : tyA t = .object (cN (elT t)) ∧ elT t < 13 := by
  rcases h with rfl | rfl | rfl | rfl <;> exact ⟨rfl, by decide⟩
theorem c_aldR {pc : Nat} {ls : Lo} {st : List Value} {h : HS} {f' : Cfg} (hx : p.tables.exec = Jvm.exec) (hb : c.code = qb k) (hd : decode (qb k) pc = .ok (.aaload, 1)) (hK : KS g xt s) (hs : aldR pc ls st h = some (.inl f'))
    (kk : Goal p l e R s m args below meth c Q g xt n0 s0 k f') : Goal p l e R s m args below meth c Q g xt n0 s0 k (pc, ls, st, h) := by
  unfold aldR at hs
  split at hs
  · next i o r =>
    split at hs
    · next ht =>
      split at hs
      · cases hs
      · next hin =>
        cases hs
        intro H locs la hr hlo hLR h1 h2
        have hr : Rel g xt h H := hr
        have hlt : i.toNatClampNeg < hN h o := Nat.not_le.mp fun q => hin (Or.inr q)
        have hc := hr.arr (show 20 ≤ hT h o by omega) (by omega)
        have hA := (ks_arr hK (show 20 ≤ hT h o ∧ hT h o < 28 by omega)).1
        rw [(tyA_obj ht).1] at hA
        rw [arrE_r (by omega)] at hc
        have := kk H locs la hr hlo hLR h1 h2
        rw [List.map_cons, emb_rf] at this
        exact W.aald (v := va_rf ((hR h o i.toNatClampNeg).map (ad g))) (ty := .object (cN (elT (hT h o)))) hx hb hc (hA (hN h o) (fun j => va_rf ((hR h o j).map (ad g)))) rfl (fun q => by cases q) (by show ¬ (i < 0 ∨ (arrV _ _ _).slots.size ≤ _); rw [arrV_size]; exact hin) (by show (arrV _ _ _).slots[_]? = _; rw [arrV_read _ _ hlt]) rfl rfl hd this
    · cases hs
  · cases hs
theorem c_astI {pc : Nat} {ls : Lo} {st : List Value} {h : HS} {f' : Cfg} (hx : p.tables.exec = Jvm.exec) (hb : c.code = qb k) (hd : decode (qb k) pc = .ok (.iastore, 1)) (hK : KS g xt s) (hs : astI pc ls st h = some (.inl f'))
    (kk : Goal p l e R s m args below meth c Q g xt n0 s0 k f') : Goal p l e R s m args below meth c Q g xt n0 s0 k (pc, ls, st, h) := by
  unfold astI at hs
  split at hs
  · next v i o r =>
    split at hs
    · next ht =>
      split at hs
      · cases hs
      · next hin =>
        cases hs
        intro H locs la hr hlo hLR h1 h2
        have hr : Rel g xt h H := hr
        have hc := hr.arr (show 20 ≤ hT h o by omega) (by omega)
        have hA := (ks_arr hK (show 20 ≤ hT h o ∧ hT h o < 28 by omega)).1
        rw [ht] at hc hA
        rw [arrE_i (by omega)] at hc
        refine W.iast hx hb hc (hA (hN h o) (fun j => .int (hI h o j))) (fun q => by cases q) (by show ¬ (i < 0 ∨ (arrV _ _ _).slots.size ≤ _); rw [arrV_size]; exact hin) rfl rfl hd fun H1 ee z oq => ?_
        refine kk H1 _ la (hr.upd (o := o) (by omega) rfl rfl rfl (fun j hj => ⟨fun z => if_neg (fun w => hj w.1), fun _ => rfl, fun _ => rfl⟩) z oq ?_) (locs_more (hr.own (by omega)).1 hlo) hLR h1 h2
        unfold cellE
        have eT : hT (hsI h o i.toNatClampNeg v) o = 20 := ht
        rw [eT, if_neg (by omega), arrE_i (by omega)]
        show H1[ad g o]? = some (vp_cell _ _)
        rw [ee, vp_cell_i, vp_cell_i, arrV_store]
        congr 2
        funext q
        by_cases hq : q = i.toNatClampNeg
        · subst hq; simp [updV, hI, hsI, u2]
        · simp [updV, hI, hsI, u2, hq]
    · cases hs
  · cases hs
theorem c_astL {pc : Nat} {ls : Lo} {st : List Value} {h : HS} {f' : Cfg} (hx : p.tables.exec = Jvm.exec) (hb : c.code = qb k) (hd : decode (qb k) pc = .ok (.lastore, 1)) (hK : KS g xt s) (hs : astL pc ls st h = some (.inl f'))
    (kk : Goal p l e R s m args below meth c Q g xt n0 s0 k f') : Goal p l e R s m args below meth c Q g xt n0 s0 k (pc, ls, st, h) := by
  unfold astL at hs
  split at hs
  · next v i o r =>
    split at hs
    · next ht =>
      split at hs
      · cases hs
      · next hin =>
        cases hs
        intro H locs la hr hlo hLR h1 h2
        have hr : Rel g xt h H := hr
        have hc := hr.arr (show 20 ≤ hT h o by omega) (by omega)
        have hA := (ks_arr hK (show 20 ≤ hT h o ∧ hT h o < 28 by omega)).1
        rw [ht] at hc hA
        rw [arrE_l] at hc
        refine W.last hx hb hc (hA (hN h o) (fun j => .long (hL h o j))) (fun q => by cases q) (by show ¬ (i < 0 ∨ (arrV _ _ _).slots.size ≤ _); rw [arrV_size]; exact hin) rfl rfl hd fun H1 ee z oq => ?_
        refine kk H1 _ la (hr.upd (o := o) (by omega) rfl rfl rfl (fun j hj => ⟨fun _ => rfl, fun z => if_neg (fun w => hj w.1), fun _ => rfl⟩) z oq ?_) (locs_more (hr.own (by omega)).1 hlo) hLR h1 h2
        unfold cellE
        have eT : hT (hsL h o i.toNatClampNeg v) o = 23 := ht
        rw [eT, if_neg (by omega), arrE_l]
        show H1[ad g o]? = some (vp_cell _ _)
        rw [ee, vp_cell_l, vp_cell_l, arrV_store]
        congr 2
        funext q
        by_cases hq : q = i.toNatClampNeg
        · subst hq; simp [updV, hL, hsL, u2]
        · simp [updV, hL, hsL, u2, hq]
    · cases hs
  · cases hs
theorem c_astB {pc : Nat} {ls : Lo} {st : List Value} {h : HS} {f' : Cfg} (hx : p.tables.exec = Jvm.exec) (hb : c.code = qb k) (hd : decode (qb k) pc = .ok (.bastore, 1)) (hK : KS g xt s) (hs : astB pc ls st h = some (.inl f'))
    (kk : Goal p l e R s m args below meth c Q g xt n0 s0 k f') : Goal p l e R s m args below meth c Q g xt n0 s0 k (pc, ls, st, h) := by
  unfold astB at hs
  split at hs
  · next v i o r =>
    split at hs
    · cases hs
    · next hin =>
      split at hs
      · next ht =>
        cases hs
        intro H locs la hr hlo hLR h1 h2
        have hr : Rel g xt h H := hr
        have hc := hr.arr (show 20 ≤ hT h o by omega) (by omega)
        have hA := (ks_arr hK (show 20 ≤ hT h o ∧ hT h o < 28 by omega)).1
        rw [ht] at hc hA
        rw [arrE_i (by omega)] at hc
        refine W.bast hx hb hc (hA (hN h o) (fun j => .int (hI h o j))) (fun q => by cases q) (by show ¬ (i < 0 ∨ (arrV _ _ _).slots.size ≤ _); rw [arrV_size]; exact hin) rfl rfl hd fun H1 ee z oq => ?_
        refine kk H1 _ la (hr.upd (o := o) (by omega) rfl rfl rfl (fun j hj => ⟨fun z => if_neg (fun w => hj w.1), fun _ => rfl, fun _ => rfl⟩) z oq ?_) (locs_more (hr.own (by omega)).1 hlo) hLR h1 h2
        unfold cellE
        have eT : hT (hsI h o i.toNatClampNeg (vp_nar .byte v)) o = 21 := ht
        rw [eT, if_neg (by omega), arrE_i (by omega)]
        show H1[ad g o]? = some (vp_cell _ _)
        rw [ee, vp_cell_i, vp_cell_i, arrV_store]
        congr 2
        funext q
        by_cases hq : q = i.toNatClampNeg
        · subst hq
          simp [updV, hI, hsI, u2, vp_nar]
          try rfl
        · simp [updV, hI, hsI, u2, hq]
      · split at hs
        · next ht =>
          cases hs
          intro H locs la hr hlo hLR h1 h2
          have hr : Rel g xt h H := hr
          have hc := hr.arr (show 20 ≤ hT h o by omega) (by omega)
          have hA := (ks_arr hK (show 20 ≤ hT h o ∧ hT h o < 28 by omega)).1
          rw [ht] at hc hA
          rw [arrE_i (by omega)] at hc
          refine W.zast hx hb hc (hA (hN h o) (fun j => .int (hI h o j))) (fun q => by cases q) (by show ¬ (i < 0 ∨ (arrV _ _ _).slots.size ≤ _); rw [arrV_size]; exact hin) rfl rfl hd fun H1 ee z oq => ?_
          refine kk H1 _ la (hr.upd (o := o) (by omega) rfl rfl rfl (fun j hj => ⟨fun z => if_neg (fun w => hj w.1), fun _ => rfl, fun _ => rfl⟩) z oq ?_) (locs_more (hr.own (by omega)).1 hlo) hLR h1 h2
          unfold cellE
          have eT : hT (hsI h o i.toNatClampNeg (vp_nar .boolean v)) o = 22 := ht
          rw [eT, if_neg (by omega), arrE_i (by omega)]
          show H1[ad g o]? = some (vp_cell _ _)
          rw [ee, vp_cell_i, vp_cell_i, arrV_store]
          congr 2
          funext q
          by_cases hq : q = i.toNatClampNeg
          · subst hq
            simp [updV, hI, hsI, u2, vp_nar]
            try rfl
          · simp [updV, hI, hsI, u2, hq]
        · cases hs
  · cases hs
theorem c_astR {pc : Nat} {ls : Lo} {st : List Value} {h : HS} {f' : Cfg} (hx : p.tables.exec = Jvm.exec) (hb : c.code = qb k) (hd : decode (qb k) pc = .ok (.aastore, 1)) (hK : KS g xt s) (hs : astR pc ls st h = some (.inl f'))
    (kk : Goal p l e R s m args below meth c Q g xt n0 s0 k f') : Goal p l e R s m args below meth c Q g xt n0 s0 k (pc, ls, st, h) := by
  unfold astR at hs
  split at hs
  · next v i o r =>
    split at hs
    · next ht0 =>
      obtain ⟨ht, hv⟩ := ht0
      split at hs
      · cases hs
      · next hin =>
        cases hs
        intro H locs la hr hlo hLR h1 h2
        have hr : Rel g xt h H := hr
        have hlt : i.toNatClampNeg < hN h o := Nat.not_le.mp fun q => hin (Or.inr q)
        have h0 : ¬ i < 0 := fun q => hin (Or.inl q)
        have hc := hr.arr (show 20 ≤ hT h o by omega) (by omega)
        obtain ⟨hA, hRA⟩ := ks_arr hK (show 20 ≤ hT h o ∧ hT h o < 28 by omega)
        obtain ⟨ty, hel⟩ := tyA_obj ht
        rw [ty] at hA hRA
        rw [arrE_r (by omega)] at hc
        have hob := hr.obj (show hT h v < 13 by omega)
        rw [hv] at hob
        obtain ⟨r', hr', cellV, g1, g2, g3, -⟩ := hob
        have hcc := cls_at hel
        have hcls := (hK.1.1 _ _ hcc).2
        obtain ⟨kA, comp, k1, k2, k3, -⟩ := hRA
        have hcomp : comp = (gD g).1 (elT (hT h o)) := Option.some.inj (k3.symm.trans hcls.1)
        subst hcomp
        obtain ⟨kC, hkC, -⟩ := hcls.2
        refine W.aast hx hb hc (fun q h => by cases h) (fun h => by cases h) k1 k2 rfl hkC ⟨h0, by show _ < (arrV _ _ _).slots.size; rw [arrV_size]; exact hlt⟩ g1 (fun q h => by rw [g3] at h; cases h) (by rw [g2]; exact hkC) (by rw [g2]; exact va_assign hcls) rfl rfl hd fun H1 ee z oq => ?_
        refine kk H1 _ la (hr.upd (o := o) (by omega) rfl rfl rfl (fun j hj => ⟨fun _ => rfl, fun _ => rfl, fun z => if_neg (fun w => hj w.1)⟩) z oq ?_) (locs_more (hr.own (by omega)).1 hlo) hLR h1 h2
        unfold cellE
        have eT : hT (hsR h o i.toNatClampNeg (some v)) o = hT h o := rfl
        rw [eT, if_neg (by omega), arrE_r (by omega)]
        show H1[ad g o]? = some (vp_cell _ _)
        rw [ee, vp_cell_q, vp_cell_q, arrV_store]
        congr 2
        funext q
        by_cases hq : q = i.toNatClampNeg
        · subst hq; simp [updV, hR, hsR, u2, va_rf]
        · simp [updV, hR, hsR, u2, hq]
    · cases hs
  · cases hs
theorem c_alen {pc : Nat} {ls : Lo} {st : List Value} {h : HS} {f' : Cfg} (hx : p.tables.exec = Jvm.exec) (hb : c.code = qb k) (hd : decode (qb k) pc = .ok (.arraylength, 1)) (hK : KS g xt s) (hs : alenF pc ls st h = some (.inl f'))
    (kk : Goal p l e R s m args below meth c Q g xt n0 s0 k f') : Goal p l e R s m args below meth c Q g xt n0 s0 k (pc, ls, st, h) := by
  unfold alenF at hs
  split at hs
  · next o r =>
    split at hs
    · next ht =>
      cases hs
      intro H locs la hr hlo hLR h1 h2
      have hr : Rel g xt h H := hr
      by_cases h40 : hT h o = 40
      · obtain ⟨scr, y1, y2, y3, y4, y5, y6, -⟩ := rel_ext hK hr h40
        exact W.alen (n := Int32.ofNat (hN h o)) hx hb y1 y2 y5 rfl rfl hd (kk H locs la hr hlo hLR h1 h2)
      · have hb1 : 20 ≤ hT h o ∧ hT h o < 28 := by omega
        have hc := hr.arr hb1.1 hb1.2
        have hA := (ks_arr hK hb1).1
        have key : ∀ (z : Nat → Value), vp_cell (gA g (hT h o - 20)) (arrE g h o (hT h o)) = arrV (gA g (hT h o - 20)) (hN h o) z → W p l e R s m args below meth c H locs (h.1 - n0) (h.2.1 - s0) Q (F0 m pc la (.ref (ad g o) :: r.map (emb g))) := fun z ez => by
          rw [ez] at hc
          exact W.alen (n := Int32.ofNat (hN h o)) hx hb hc (hA (hN h o) z) (by rw [arrV_size] <;> rfl) rfl rfl hd (kk H locs la hr hlo hLR h1 h2)
        by_cases h23 : hT h o = 23
        · exact key (fun j => .long (hL h o j)) (by rw [h23, arrE_l, vp_cell_l])
        · by_cases h24 : 24 ≤ hT h o
          · exact key (fun j => va_rf ((hR h o j).map (ad g))) (by rw [arrE_r h24, vp_cell_q])
          · exact key (fun j => .int (hI h o j)) (by rw [arrE_i (by omega), vp_cell_i])
    · cases hs
  · cases hs
end SA
