def wsk (k : Nat) : List Cond := Cond.code (qy k) (qb k) (qml k) (qr k) :: tw
def rmk (d mc ms : Nat) : Room := { frames := d + 20, cells := mc, slots := ms, locals := 60 * d + 700 }
theorem code_tw {k : Nat} (hk : k < 312) (h : ¬ k = 306) : Cond.code (qy k) (qb k) (qml k) (qr k) ∈ tw := tw_of (ck_P k (List.mem_range.mpr hk) h) rfl
theorem y_ok {k : Nat} (hk : k < 312) : (plainName (qy k).cls = true ∨ qo k = 15) ∧ (qy k).cls ≠ "java/lang/invoke/MethodHandle" ∧ (qy k).cls ≠ "java/lang/invoke/VarHandle" ∧ qml k ≤ 40 ∧ Cond.initialized (qy k).cls ∈ tw ∧ (parseMethodDescriptor (qy k).desc).map (fun d => d.parameters.length) = some (mK.getD k (0, 9)).1 := by
  have := List.all_eq_true.mp ck_Mm k (List.mem_range.mpr hk)
  simp only [okM, Bool.and_eq_true, decide_eq_true_eq, Bool.or_eq_true, beq_iff_eq] at this
  obtain ⟨⟨⟨⟨⟨h0, h1⟩, h2⟩, h3⟩, h4⟩, -⟩ := this
  have hj := of_decide_eq_true (List.all_eq_true.mp ck_J (qo k) (List.mem_range.mpr (oN_ok hk).2))
  rw [(oN_ok hk).1] at hj
  exact ⟨h1, h2, h3, h4, tw_of hj rfl, h0⟩
theorem m_inst {k b : Nat} (hk : k < 312) (h : mK.getD k (0, 9) = (b, 0)) : Cond.instanceMethod (qy k) ∈ tw ∧ Cond.selects (qy k).cls (qy k) (qy k) ∈ tw ∧ (qy k).cls = cN (qo k) := by
  have := List.all_eq_true.mp ck_Mm k (List.mem_range.mpr hk)
  simp only [okM, Bool.and_eq_true, decide_eq_true_eq] at this
  have h2 := this.2
  rw [h] at h2
  simp only [Bool.and_eq_true, decide_eq_true_eq] at h2
  exact ⟨tw_of h2.1.1 rfl, tw_of h2.1.2 rfl, h2.2⟩
theorem m_stat {k b : Nat} (hk : k < 312) (h : mK.getD k (0, 9) = (b, 1)) : Cond.static (qy k) ∈ tw := by
  have := List.all_eq_true.mp ck_Mm k (List.mem_range.mpr hk)
  simp only [okM, Bool.and_eq_true, decide_eq_true_eq] at this
  have h2 := this.2
  rw [h] at h2
  exact tw_of (of_decide_eq_true h2) rfl
theorem m_init {k b : Nat} (hk : k < 312) (h : mK.getD k (0, 9) = (b, 2)) : Cond.instanceMethod (qy k) ∈ tw := by
  have := List.all_eq_true.mp ck_Mm k (List.mem_range.mpr hk)
  simp only [okM, Bool.and_eq_true, decide_eq_true_eq] at this
  have h2 := this.2
  rw [h] at h2
  exact tw_of (of_decide_eq_true h2) rfl
theorem good_ws {k : Nat} (hk : k < 312) (h : ¬ k = 306) : GoodIn tw (wsk k) := by
  intro w hw
  have hm : w ∈ tw := by
    rcases List.mem_cons.mp hw with z | z
    · rw [z]; exact code_tw hk h
    · exact z
  exact ⟨hm, good_of_word (List.mem_filter.mp hm).2⟩
set_option maxRecDepth 100000 in
theorem init15 {k b : Nat} (hk : k < 312) (h : mK.getD k (0, 9) = (b, 2)) : ¬ qo k = 15 := by
  have : ∀ k, k < 312 → (mK.getD k (0, 9)).2 = 2 → ¬ qo k = 15 := by decide +kernel
  exact this k hk (by rw [h])
def Con (l : Launch) (g : GX) (xt : XT) (d k : Nat) (as : List Value) (h : HS) (v : Option Value) (h' : HS) : Prop :=
  Met l (qy k) (wsk k) (rmk d (h'.1 - h.1) (h'.2.1 - h.2.1)) (va_Pc (as.map (emb g)) (fun U => Rel g xt h U.heap ∧ KS g xt U)) (fun _ _ o t => o = .returned (v.map (emb g)) ∧ Rel g xt h' t.heap) (h'.1 - h.1) (h'.2.1 - h.2.1) (fun q => gb g ≤ q)
section SO
variable {p : Program} {l : Launch} {e : Env} {R : Room} {s : State} {m : MethodId} {args : Array Value} {below : List Frame} {meth : Method} {c : Code} {Q : State → Prop}
variable {g : GX} {xt : XT} {n0 s0 k : Nat}
theorem sum_le (g : GX) (r : List Value) : ((r.map (emb g)).map fun v => v.category).sum ≤ 2 * r.length := by
  induction r with
  | nil => exact Nat.le_refl _
  | cons v t ih =>
    simp only [List.map_cons, List.sum_cons, List.length_cons]
    have : (emb g v).category ≤ 2 := by cases emb g v <;> simp [Value.category]
    omega
theorem sum_one {r : List Value} (h : r.all (fun v => v.category == 1) = true) : (r.map fun v => v.category).sum = r.length := by
  induction r with
  | nil => rfl
  | cons v t ih =>
    rw [List.all_cons, Bool.and_eq_true] at h
    simp only [List.map_cons, List.sum_cons, List.length_cons]
    rw [ih h.2, eq_of_beq h.1, Nat.add_comm]
theorem sum_ok (g : GX) {r : List Value} (h : stOk r = true) : ((r.map (emb g)).map fun v => v.category).sum ≤ 8 := by
  unfold stOk at h
  rw [Bool.or_eq_true, Bool.and_eq_true] at h
  rcases h with h | ⟨h1, h2⟩
  · have := sum_le g r
    have := Nat.le_of_ble_eq_true h
    omega
  · have e : ((r.map (emb g)).map fun v => v.category) = r.map fun v => v.category := by
      rw [List.map_map]
      exact List.map_congr_left fun v _ => emb_cat g v
    rw [e, sum_one h2]
    exact Nat.le_of_ble_eq_true h1
theorem x_call {Qc : Array Value → State → Outcome → State → Prop} {av : Array Value} {pc mc ms cells slots : Nat} {la : Array Slot} {H : Heap} {locs : List Loc} {st0 rest : List Value} {v : Option Value} {h' : HS}
    (hQ : ∀ st o t, Qc av st o t → o = .returned (v.map (emb g)) ∧ Rel g xt h' t.heap)
    (hr : va_Run p l e R s m args below meth c H locs cells slots mc ms (F0 m pc la st0) rest (Qc av) (fun q => gb g ≤ q)) (hlo : ∀ q ∈ locs, gb g ≤ q.base)
    (kk : ∀ (H1 : Heap) (locs1 : List Loc), Rel g xt h' H1 → (∀ q ∈ locs1, gb g ≤ q.base) → W p l e R s m args below meth c H1 locs1 (cells + mc) (slots + ms) Q (F0 m (pc + 3) la ((v.map (emb g)).toList ++ rest))) : W p l e R s m args below meth c H locs cells slots Q (F0 m pc la st0) := by
  intro T hT X
  obtain ⟨v1, st₀, t, T', L, h0, X', hL, e1, e2, hq, st⟩ := hr T hT X
  obtain ⟨hv, hR⟩ := hQ _ _ _ hq
  cases hv
  rw [← e1] at hR
  obtain ⟨t2, a1, b1⟩ := kk T'.heap (locs ++ L) hR (fun q hq => by
    rcases List.mem_append.mp hq with z | z
    · exact hlo q z
    · exact hL q z) T' rfl X'
  exact ⟨t2, st t2 a1, b1⟩
theorem blind {as : List Value} {h : HS} : FrameBlind (va_Pc (as.map (emb g)) (fun U => Rel g xt h U.heap ∧ KS g xt U)) := by
  intro a U f mk q
  exact ⟨q.1, q.2.1, q.2.2.call⟩
theorem recv_ok {h : HS} {H : Heap} {o a : Nat} (hK : KS g xt s) (hr : Rel g xt h H) (ht : hT h o = a) (ha : a < 13) : ∃ cellB : Cell, H[ad g o]? = some cellB ∧ cellB.vm.isStatics = false ∧ s.vm.findClass (cN a) = some cellB.cls := by
  have hob := hr.obj (show hT h o < 13 by omega)
  rw [ht] at hob
  obtain ⟨r, g1, cell, q1, q2, q3, -⟩ := hob
  have hcc := cls_at ha
  have hcls := (hK.1.1 _ _ hcc).2
  exact ⟨cell, q1, by rw [q3]; rfl, by rw [q2]; exact hcls.1⟩
/-- a call, where the callee's contract stands -/
theorem c_call {pc d : Nat} {ls : Lo} {st : List Value} {h h1 : HS} {k' : Nat} {as : List Value} {c' : Cfg} {v : Option Value} (C0 : Ctx p s m args meth c g xt k) (hfr : d + 1 + 20 ≤ R.frames ∧ 60 * (d + 1) + 700 ≤ R.locals) (hs : stp k (pc, ls, st, h) = some (.inr (.inr (k', as, c'))))
    (hcon : k' < 312 → ¬ k' = 306 → ¬ qo k' = 15 → Con l g xt d k' as h v h1) (hm : h.1 ≤ h1.1 ∧ h.2.1 ≤ h1.2.1) (hroom : h1.1 - n0 ≤ R.cells ∧ h1.2.1 - s0 ≤ R.slots)
    (kk : Goal p l e R s m args below meth c Q g xt n0 s0 k (back c' v h1)) : Goal p l e R s m args below meth c Q g xt n0 s0 k (pc, ls, st, h) := by
  obtain ⟨hk, hx, hb, hml, hown, hts, hK, -⟩ := id C0
  unfold stp at hs
  split at hs
  · next ins a b x hf =>
    simp only at hf hs
    obtain ⟨⟨-, hd⟩, hE⟩ := fetch_ok hk hf
    have hC := List.all_eq_true.mp (List.all_eq_true.mp ck_Cc k (List.mem_range.mpr hk)) _ (fetch_mem hf)
    rcases sti_call hs with ⟨i, rfl, hx0, w⟩ | ⟨i, rfl, hx0, w⟩ | ⟨i, rfl, hx0, w⟩
    · -- an object's method
      obtain ⟨rfl, rest, rfl, h4, o, as', rfl, est, hlen, hto⟩ := callF_spec w
      subst hx0
      simp only [okE, Bool.or_eq_true, decide_eq_true_eq, Bool.and_eq_true, beq_iff_eq] at hE
      have hE' := hE.resolve_left (by decide)
      obtain ⟨⟨⟨-, hl⟩, hqo⟩, ha⟩ := hE'
      have hk' : k' < 312 := by omega
      have h306 : ¬ k' = 306 := by omega
      simp only [okC, Bool.or_eq_true, decide_eq_true_eq] at hC
      have hC := hC.resolve_left (by decide)
      have hM := hcon hk' h306 (by omega)
      obtain ⟨y1, y2, y3, y4, y5, c1⟩ := y_ok hk'
      rw [hC] at c1
      obtain ⟨c2, c3, c4⟩ := m_inst hk' hC
      obtain ⟨f, hf1, hf2⟩ := List.any_eq_true.mp hl
      simp only [Bool.and_eq_true, beq_iff_eq] at hf2
      obtain ⟨⟨f1, f2⟩, f3⟩ := hf2
      have hlk := lkM_ok (oN_ok hk).2 hf1
      rw [f1, f2, f3, if_pos rfl] at hlk
      have cb : CallB R s args (oN (qo k)) i (qy k') (qb k') (qml k') (qr k') (wsk k') (rmk d (h1.1 - h.1) (h1.2.1 - h.2.1)) (h1.1 - h.1) (h1.2.1 - h.2.1) b :=
        ⟨rfl, rfl, by show d + 20 + 1 ≤ _; omega, by show 8 + (qml k' + 11) + (60 * d + 700) ≤ _; omega, pay_in hts (good_ws hk' h306), List.mem_cons_self, hts _ (code_tw hk' h306), hts _ y5, ⟨y2, y3⟩, fun sig hsig => by rw [hsig] at c1; exact (Option.some.inj c1).symm, hts _ (tw_of hlk rfl)⟩
      intro H locs la hr hlo hLR g1 g2
      have hr : Rel g xt h H := hr
      have g1' : n0 ≤ h.1 := g1
      have g2' : s0 ≤ h.2.1 := g2
      have hrun := va_runV (cells := h.1 - n0) (slots := h.2.1 - s0) (As := as'.map (emb g)) (rest := rest.map (emb g)) (b := ad g o) (C := (qy k').cls) ⟨hx, hb, hml, own_ok C0, hts⟩ hM ⟨cb, hts _ c2, hts _ c3⟩
        ⟨blind, by rw [c4]; exact recv_ok hK hr hto hqo, fun U hU hW => ⟨by rw [List.map_cons]; rfl, by rw [hU]; exact hr, hK.warm hW⟩⟩ (g := F0 m pc la (st.map (emb g))) rfl (by rw [List.length_map]; exact hlen) hLR.2.1 (by rw [est, List.map_append, List.map_reverse]; rfl) (lv_room (by have := sum_ok g h4; omega)) (hd rfl) ⟨by show h.1 - n0 + (h1.1 - h.1) ≤ _; omega, by show h.2.1 - s0 + (h1.2.1 - h.2.1) ≤ _; omega⟩ (locs := locs) (H := H) (l := l) (e := e) (below := below) (meth := meth)
      refine x_call (Qc := fun _ _ o t => o = Outcome.returned (v.map (emb g)) ∧ Rel g xt h1 t.heap) (av := #[]) (fun _ _ _ z => z) hrun hlo fun H1 locs1 hr1 hlo1 => ?_
      have K := kk H1 locs1 la hr1 hlo1 hLR (by show n0 ≤ h1.1; omega) (by show s0 ≤ h1.2.1; omega)
      have e1 : h.1 - n0 + (h1.1 - h.1) = h1.1 - n0 := by omega
      have e2 : h.2.1 - s0 + (h1.2.1 - h.2.1) = h1.2.1 - s0 := by omega
      rw [e1, e2]
      have e3 : (v.map (emb g)).toList ++ rest.map (emb g) = (back (pc + 3, ls, rest, h) v h1).2.2.1.map (emb g) := by cases v <;> rfl
      rw [e3]
      exact K
    · -- a static method
      obtain ⟨rfl, rest, rfl, h4, est, hlen⟩ := callF_spec w
      simp only [okE, Bool.or_eq_true, decide_eq_true_eq, Bool.and_eq_true, beq_iff_eq, Bool.not_eq_true', beq_eq_false_iff_ne] at hE
      have hE' := hE.resolve_left (by rcases hx0 with z | z <;> rw [z] <;> decide)
      obtain ⟨⟨hl, hk'⟩, h306⟩ := hE'
      simp only [okC, Bool.or_eq_true, Bool.and_eq_true, decide_eq_true_eq] at hC
      have hC := hC.resolve_left (by rcases hx0 with z | z <;> rw [z] <;> decide)
      obtain ⟨hC, h15⟩ := hC
      have hM := hcon hk' h306 h15
      obtain ⟨y1, y2, y3, y4, y5, c1⟩ := y_ok hk'
      rw [hC] at c1
      have c2 := m_stat hk' hC
      obtain ⟨f, hf1, hf2⟩ := List.any_eq_true.mp hl
      simp only [Bool.and_eq_true, Bool.or_eq_true, beq_iff_eq] at hf2
      obtain ⟨⟨f1, f2⟩, f3⟩ := hf2
      have hlk := lkM_ok (oN_ok hk).2 hf1
      intro H locs la hr hlo hLR g1 g2
      have hr : Rel g xt h H := hr
      have g1' : n0 ≤ h.1 := g1
      have g2' : s0 ≤ h.2.1 := g2
      have fin : va_Run p l e R s m args below meth c H locs (h.1 - n0) (h.2.1 - s0) (h1.1 - h.1) (h1.2.1 - h.2.1) (F0 m pc la (st.map (emb g))) (rest.map (emb g)) ((fun _ _ o t => o = Outcome.returned (v.map (emb g)) ∧ Rel g xt h1 t.heap) (as.map (emb g)).toArray) (fun q => gb g ≤ q) := by
        have hpre : PreS s H (va_Pc (as.map (emb g)) (fun U => Rel g xt h U.heap ∧ KS g xt U)) (as.map (emb g)) := ⟨blind, fun U hU hW => ⟨rfl, by rw [hU]; exact hr, hK.warm hW⟩⟩
        rcases f3 with ⟨x1, n0'⟩ | ⟨x2, n1'⟩
        · rw [f1, f2, n0', if_pos rfl] at hlk
          have cb : CallB R s args (oN (qo k)) i (qy k') (qb k') (qml k') (qr k') (wsk k') (rmk d (h1.1 - h.1) (h1.2.1 - h.2.1)) (h1.1 - h.1) (h1.2.1 - h.2.1) b :=
            ⟨rfl, rfl, by show d + 20 + 1 ≤ _; omega, by show 8 + (qml k' + 11) + (60 * d + 700) ≤ _; omega, pay_in hts (good_ws hk' h306), List.mem_cons_self, hts _ (code_tw hk' h306), hts _ y5, ⟨y2, y3⟩, fun sig hsig => by rw [hsig] at c1; exact (Option.some.inj c1).symm, hts _ (tw_of hlk rfl)⟩
          exact va_runS ⟨hx, hb, hml, own_ok C0, hts⟩ hM ⟨cb, hts _ c2⟩ hpre rfl (by rw [List.length_map]; exact hlen) hLR.2.1 (by show st.map (emb g) = _; rw [est, List.map_append, List.map_reverse]) (lv_room (by have := sum_ok g h4; omega)) (hd rfl) ⟨by show h.1 - n0 + (h1.1 - h.1) ≤ _; omega, by show h.2.1 - s0 + (h1.2.1 - h.2.1) ≤ _; omega⟩
        · rw [f1, f2, n1', if_neg (by decide)] at hlk
          have hN := hK.2.1 (Cond.methodLinkNest (oN (qo k)) i (qy k') R11) (List.mem_filter.mpr ⟨List.mem_of_getElem? hlk, rfl⟩)
          have cb : va_CN R s args (oN (qo k)) i (qy k') R11 (qb k') (qml k') (qr k') (wsk k') (rmk d (h1.1 - h.1) (h1.2.1 - h.2.1)) (h1.1 - h.1) (h1.2.1 - h.2.1) b :=
            ⟨⟨rfl, rfl, by show d + 20 + 1 ≤ _; omega, by show 8 + (qml k' + 11) + (60 * d + 700) ≤ _; omega, pay_in hts (good_ws hk' h306), List.mem_cons_self⟩, hts _ (code_tw hk' h306), hts _ y5, ⟨y2, y3⟩, fun sig hsig => by rw [hsig] at c1; exact (Option.some.inj c1).symm, va_Nw.use rfl hN⟩
          exact va_runSN ⟨hx, hb, hml, own_ok C0, hts⟩ hM ⟨cb, hts _ c2, trivial⟩ hpre rfl (by rw [List.length_map]; exact hlen) hLR.2.1 (by show st.map (emb g) = _; rw [est, List.map_append, List.map_reverse]) (lv_room (by have := sum_ok g h4; omega)) (hd rfl) ⟨by show h.1 - n0 + (h1.1 - h.1) ≤ _; omega, by show h.2.1 - s0 + (h1.2.1 - h.2.1) ≤ _; omega⟩
      refine x_call (Qc := fun _ _ o t => o = Outcome.returned (v.map (emb g)) ∧ Rel g xt h1 t.heap) (av := #[]) (fun _ _ _ z => z) fin hlo fun H1 locs1 hr1 hlo1 => ?_
      have K := kk H1 locs1 la hr1 hlo1 hLR (by show n0 ≤ h1.1; omega) (by show s0 ≤ h1.2.1; omega)
      have e1 : h.1 - n0 + (h1.1 - h.1) = h1.1 - n0 := by omega
      have e2 : h.2.1 - s0 + (h1.2.1 - h.2.1) = h1.2.1 - s0 := by omega
      rw [e1, e2]
      have e3 : (v.map (emb g)).toList ++ rest.map (emb g) = (back (pc + 3, ls, rest, h) v h1).2.2.1.map (emb g) := by cases v <;> rfl
      rw [e3]
      exact K
    · -- a constructor
      obtain ⟨rfl, rest, rfl, h4, o, as', rfl, est, hlen, hto⟩ := callF_spec w
      simp only [okE, Bool.or_eq_true, decide_eq_true_eq, Bool.and_eq_true, beq_iff_eq] at hE
      have hE' := hE.resolve_left (by rcases hx0 with z | z <;> rw [z] <;> decide)
      obtain ⟨⟨⟨hl, ha⟩, hnm⟩, hnone⟩ := hE'
      have hk' : k' < 312 := by omega
      have h306 : ¬ k' = 306 := by omega
      simp only [okC, Bool.or_eq_true, decide_eq_true_eq] at hC
      have hC := hC.resolve_left (by rcases hx0 with z | z <;> rw [z] <;> decide)
      have hM := hcon hk' h306 (init15 hk' hC)
      obtain ⟨y1, y2, y3, y4, y5, c1⟩ := y_ok hk'
      rw [hC] at c1
      have c2 := m_init hk' hC
      obtain ⟨f, hf1, hf2⟩ := List.any_eq_true.mp hl
      simp only [Bool.and_eq_true, Bool.or_eq_true, beq_iff_eq] at hf2
      obtain ⟨⟨f1, f2⟩, f3⟩ := hf2
      have hlk := lkM_ok (oN_ok hk).2 hf1
      intro H locs la hr hlo hLR g1 g2
      have hr : Rel g xt h H := hr
      have g1' : n0 ≤ h.1 := g1
      have g2' : s0 ≤ h.2.1 := g2
      have hret : qr k' = none := hnone
      have fin : va_Run p l e R s m args below meth c H locs (h.1 - n0) (h.2.1 - s0) (h1.1 - h.1) (h1.2.1 - h.2.1) (F0 m pc la (st.map (emb g))) (rest.map (emb g)) ((fun _ _ o t => o = Outcome.returned (v.map (emb g)) ∧ Rel g xt h1 t.heap) ((Value.ref (ad g o) :: as'.map (emb g))).toArray) (fun q => gb g ≤ q) := by
        have hpre : PreS s H (va_Pc ((Value.ref o :: as').map (emb g)) (fun U => Rel g xt h U.heap ∧ KS g xt U)) (.ref (ad g o) :: as'.map (emb g)) := ⟨blind, fun U hU hW => ⟨rfl, by rw [hU]; exact hr, hK.warm hW⟩⟩
        rcases f3 with ⟨x1, n0'⟩ | ⟨x2, n1'⟩
        · rw [f1, f2, n0', if_pos rfl] at hlk
          have cb : CallB R s args (oN (qo k)) i (qy k') (qb k') (qml k') none (wsk k') (rmk d (h1.1 - h.1) (h1.2.1 - h.2.1)) (h1.1 - h.1) (h1.2.1 - h.2.1) b :=
            ⟨rfl, rfl, by show d + 20 + 1 ≤ _; omega, by show 8 + (qml k' + 11) + (60 * d + 700) ≤ _; omega, pay_in hts (good_ws hk' h306), by rw [← hret]; exact List.mem_cons_self, by rw [← hret]; exact hts _ (code_tw hk' h306), hts _ y5, ⟨y2, y3⟩, fun sig hsig => by rw [hsig] at c1; exact (Option.some.inj c1).symm, hts _ (tw_of hlk rfl)⟩
          exact va_runI ⟨hx, hb, hml, own_ok C0, hts⟩ hM ⟨cb, hnm, hts _ c2⟩ hpre rfl (by rw [List.length_map]; exact hlen) hLR.2.1 (by show st.map (emb g) = _; rw [est, List.map_append, List.map_reverse]; rfl) (lv_room (by have := sum_ok g h4; omega)) (hd rfl) ⟨by show h.1 - n0 + (h1.1 - h.1) ≤ _; omega, by show h.2.1 - s0 + (h1.2.1 - h.2.1) ≤ _; omega⟩
        · rw [f1, f2, n1', if_neg (by decide)] at hlk
          have hN := hK.2.1 (Cond.methodLinkNest (oN (qo k)) i (qy k') R11) (List.mem_filter.mpr ⟨List.mem_of_getElem? hlk, rfl⟩)
          have cb : va_CN R s args (oN (qo k)) i (qy k') R11 (qb k') (qml k') none (wsk k') (rmk d (h1.1 - h.1) (h1.2.1 - h.2.1)) (h1.1 - h.1) (h1.2.1 - h.2.1) b :=
            ⟨⟨rfl, rfl, by show d + 20 + 1 ≤ _; omega, by show 8 + (qml k' + 11) + (60 * d + 700) ≤ _; omega, pay_in hts (good_ws hk' h306), by rw [← hret]; exact List.mem_cons_self⟩, by rw [← hret]; exact hts _ (code_tw hk' h306), hts _ y5, ⟨y2, y3⟩, fun sig hsig => by rw [hsig] at c1; exact (Option.some.inj c1).symm, va_Nw.use rfl hN⟩
          exact va_runIN ⟨hx, hb, hml, own_ok C0, hts⟩ hM ⟨cb, hnm, hts _ c2⟩ hpre rfl (by rw [List.length_map]; exact hlen) hLR.2.1 (by show st.map (emb g) = _; rw [est, List.map_append, List.map_reverse]; rfl) (lv_room (by have := sum_ok g h4; omega)) (hd rfl) ⟨by show h.1 - n0 + (h1.1 - h.1) ≤ _; omega, by show h.2.1 - s0 + (h1.2.1 - h.2.1) ≤ _; omega⟩
      refine x_call (Qc := fun _ _ o t => o = Outcome.returned (v.map (emb g)) ∧ Rel g xt h1 t.heap) (av := #[]) (fun _ _ _ z => z) fin hlo fun H1 locs1 hr1 hlo1 => ?_
      have K := kk H1 locs1 la hr1 hlo1 hLR (by show n0 ≤ h1.1; omega) (by show s0 ≤ h1.2.1; omega)
      have e1 : h.1 - n0 + (h1.1 - h.1) = h1.1 - n0 := by omega
      have e2 : h.2.1 - s0 + (h1.2.1 - h.2.1) = h1.2.1 - s0 := by omega
      rw [e1, e2]
      have e3 : (v.map (emb g)).toList ++ rest.map (emb g) = (back (pc + 3, ls, rest, h) v h1).2.2.1.map (emb g) := by cases v <;> rfl
      rw [e3]
      exact K
  · cases hs
/-- a return, of a method that was called -/
theorem ret_ok {pc : Nat} {ls : Lo} {st : List Value} {h : HS} {v : Option Value} (C0 : Ctx p s m args meth c g xt k) (hr0 : meth.sig.returnType = qr k) (hlk : meth.locks = false) (hs : stp k (pc, ls, st, h) = some (.inr (.inl v))) :
    Goal p l e R s m args below meth c (MQ below (fun _ _ o t => o = .returned (v.map (emb g)) ∧ Rel g xt h t.heap) args s (h.1 - n0) (h.2.1 - s0) (fun q => gb g ≤ q)) g xt n0 s0 k (pc, ls, st, h) := by
  obtain ⟨hk, hx, hb, hml, hown, hts, hK, -⟩ := id C0
  unfold stp at hs
  split at hs
  · next ins a b x hf =>
    simp only at hf hs
    obtain ⟨⟨-, hd⟩, hE⟩ := fetch_ok hk hf
    intro H locs la hr hlo hLR g1 g2
    have hr : Rel g xt h H := hr
    rcases sti_ret hs with ⟨y, rfl, rfl, rfl, hy⟩ | ⟨y, rfl, rfl, rfl⟩ | ⟨w, rfl, rfl, rfl, hw⟩ | ⟨rfl, rfl, rfl⟩
    · simp only [okE, Bool.or_eq_true, Bool.and_eq_true, beq_iff_eq] at hE
      rcases hE with ⟨x0, hq⟩ | ⟨x1, hq⟩
      · exact W.iret hx hb (hr0.trans hq) (fun t ht hW => ⟨rfl, by rw [ht]; exact hr⟩) hlo (hd rfl) hlk
      · have hy' : y = 0 ∨ y = 1 := by
          rcases hy with z | z | z
          · rw [x1] at z; exact absurd z (by decide)
          · exact Or.inl z
          · exact Or.inr z
        exact W.zret (ty := .boolean) hx hb (hr0.trans hq) (by rcases hy' with z | z <;> rw [z] <;> rfl) (fun t ht hW => ⟨rfl, by rw [ht]; exact hr⟩) hlo (hd rfl) hlk
    · exact W.lret hx hb (hr0.trans (by simpa [okE] using hE)) (fun t ht hW => ⟨rfl, by rw [ht]; exact hr⟩) hlo (hd rfl) hlk
    · have hq : (∃ n, qr k = some (.object n)) ∨ ∃ t, qr k = some (.array t) := by
        simp only [okE] at hE
        split at hE
        · next n z => exact Or.inl ⟨_, z⟩
        · next n z => exact Or.inr ⟨_, z⟩
        · cases hE
      have hv : emb g w = .null ∨ ∃ o, emb g w = .ref o := by
        rcases hw with z | ⟨o, z⟩ <;> rw [z]
        · exact Or.inl rfl
        · exact Or.inr ⟨_, rfl⟩
      rcases hq with ⟨n, z⟩ | ⟨n, z⟩
      · exact W.aret hx hb (hr0.trans z) (Or.inl ⟨_, rfl⟩) hv (fun t ht hW => ⟨rfl, by rw [ht]; exact hr⟩) hlo (hd rfl) hlk
      · exact W.aret hx hb (hr0.trans z) (Or.inr ⟨_, rfl⟩) hv (fun t ht hW => ⟨rfl, by rw [ht]; exact hr⟩) hlo (hd rfl) hlk
    · exact W.vret hx hb (hr0.trans (by simpa [okE] using hE)) (fun t ht hW => ⟨rfl, by rw [ht]; exact hr⟩) hlo (hd rfl) hlk
  · cases hs
end SO
/-- a run of a body, with its calls' contracts -/
theorem walk {l : Launch} {g : GX} {xt : XT} (n : Nat) : (∀ (n' : Nat), n' < n → ∀ (d k : Nat) (as : List Value) (h : HS) (v : Option Value) (h' : HS), k < 312 → ¬ k = 306 → ¬ qo k = 15 → (elocs as).length ≤ qml k → run n' d k (ent k as h) = some (v, h') → Con l g xt d k as h v h') →
    ∀ (p : Program) (e : Env) (R : Room) (s : State) (m : MethodId) (args : Array Value) (below : List Frame) (meth : Method) (c : Code) (Q : State → Prop) (n0 s0 k d : Nat) (f : Cfg) (v : Option Value) (h' : HS), Ctx p s m args meth c g xt k → (d + 20 ≤ R.frames ∧ 60 * d + 700 ≤ R.locals) → run n d k f = some (v, h') →
      (h'.1 - n0 ≤ R.cells ∧ h'.2.1 - s0 ≤ R.slots) →
      (∀ (pc : Nat) (ls : Lo) (st : List Value), stp k (pc, ls, st, h') = some (.inr (.inl v)) → Goal p l e R s m args below meth c Q g xt n0 s0 k (pc, ls, st, h')) → Goal p l e R s m args below meth c Q g xt n0 s0 k f := by
  induction n with
  | zero => intro _ p e R s m args below meth c Q n0 s0 k d f v h' _ _ h; cases h
  | succ n IH =>
    intro ih p e R s m args below meth c Q n0 s0 k d f v h' C0 hfr h hroom hret
    have W1 := fun (f : Cfg) (h : run n d k f = some (v, h')) => IH (fun n' hn' => ih n' (by omega)) p e R s m args below meth c Q n0 s0 k d f v h' C0 hfr h hroom hret
    obtain ⟨pc, ls, st, hh⟩ := f
    unfold run at h
    split at h
    · cases h
    · next c' hs =>
      have hm := run_mono n d k c' v h' h
      exact step_ok C0 ⟨by omega, by omega⟩ hs ⟨by omega, by omega⟩ (W1 _ h)
    · next v1 hs =>
      cases h
      exact hret pc ls st hs
    · next k' as c' hs =>
      cases d with
      | zero => cases h
      | succ d' =>
        simp only at h
        split at h
        · next hl =>
          split at h
          · cases h
          · next v1 h1 hr =>
            have hc : c'.2.2.2 = hh := by
              unfold stp at hs
              split at hs
              · rcases sti_call hs with ⟨i, -, -, w⟩ | ⟨i, -, -, w⟩ | ⟨i, -, -, w⟩ <;> (obtain ⟨-, rest, e, -⟩ := callF_spec w; rw [e])
              · cases hs
            rw [hc] at hr
            have a1 := run_mono n d' k' _ _ _ hr
            have a2 := run_mono n (d' + 1) k _ _ _ h
            have a2' : h1.1 ≤ h'.1 ∧ h1.2.1 ≤ h'.2.1 := a2
            exact c_call C0 ⟨by omega, by omega⟩ hs (fun x y z => ih n (by omega) d' k' as hh v1 h1 x y z hl hr) a1 ⟨by omega, by omega⟩ (W1 _ h)
        · cases h
theorem sound {l : Launch} {g : GX} {xt : XT} (n : Nat) : ∀ (d k : Nat) (as : List Value) (h : HS) (v : Option Value) (h' : HS), k < 312 → ¬ k = 306 → ¬ qo k = 15 → (elocs as).length ≤ qml k → run n d k (ent k as h) = some (v, h') → Con l g xt d k as h v h' := by
  induction n using Nat.strongRecOn with
  | ind n ih =>
    intro d k as h v h' hk h306 h15 hlen hrun
    refine Met.ofW (cc := qb k) (maxL := qml k) (ret := qr k) ((y_ok hk).1.resolve_right h15) rfl ?_
    intro p e s m args below meth c s₁ B hml hv
    obtain ⟨rfl, hR, hK⟩ := hv
    have hts0 := atoms_spec (ws := wsk k) B.pre
    have hts : ∀ w ∈ tw, w.before ((as.map (emb g)).toArray) s = true := fun w hw => hts0 w (List.mem_cons_of_mem _ hw)
    have hown : s.vm.findClass (qy k).cls = some m.cls := findClass_of_methodNamed B.named
    have hnm : meth.name = (qy k).name := (name_of_methodNamed B.named B.method).1
    have C0 : Ctx p s m ((as.map (emb g)).toArray) meth c g xt k := ⟨hk, B.exec, B.bytes, hml, hown, hts, hK, fun z => hnm.trans z⟩
    have hG := walk n ih p e (headSpec (wsk k) (rmk d (h'.1 - h.1) (h'.2.1 - h.2.1))).room s m ((as.map (emb g)).toArray) below meth c (MQ below (fun _ _ o t => o = .returned (v.map (emb g)) ∧ Rel g xt h' t.heap) ((as.map (emb g)).toArray) s (h'.1 - h.1) (h'.2.1 - h.2.1) (fun q => gb g ≤ q)) h.1 h.2.1 k d _ v h' C0 ⟨Nat.le_refl _, Nat.le_refl _⟩ hrun ⟨Nat.le_refl _, Nat.le_refl _⟩
      (fun pc ls st hs => ret_ok C0 B.returns B.notSynchronized hs)
    have h0 := hG s.heap [] _ hR (fun q hq => by cases hq) (ent_ok g as (qml k) hlen) (Nat.le_refl _) (Nat.le_refl _)
    rw [lg_entry_eq]
    have e1 : (ent k as h).2.2.2.1 - h.1 = 0 := Nat.sub_self _
    have e2 : (ent k as h).2.2.2.2.1 - h.2.1 = 0 := Nat.sub_self _
    rw [e1, e2] at h0
    exact h0
