def lkV : Nat × Nat × Nat × Nat := (226, 349, 351, 234)
def lkU : Nat × Nat × Nat × Nat × Nat := (582, 1015, 122, 1031, 124)
/-! THE CLAIM OUT OF ONE WALK OF THE LAW'S BODY. Your part is whole_start (and what it stands on); all else here is the same for every law, but numbers. -/
def R_law : String := "FilesOpenedLaw"
def lw_P (b : Addr) (xs : List Int32) (args : Array Value) (s : State) : Prop := args = #[.ref b] ∧ s.IntsAt b xs ∧ xs.length ≤ 4096 ∧ (Jvm.Cond.and given_1 narrow_1).before args s = true
def lw_Q (_ : Array Value) (s : State) (o : Outcome) (t : State) : Prop := o = .returned (some (.int 1)) ∧ Framed s o t [] 600000 7302250
def lw_Z (below : List Frame) (a : Array Value) (s : State) : State → Prop := fun t => ∃ o, t.status = .running ∧ Ended t below o ∧ lw_Q a s o t
/-- the law's own end, with 1 on the stack, nothing written that was there before, its room as the claim has it -/
theorem lw_ret {p : Program} {l : Launch} {e : Env} {s : State} {m : MethodId} {below : List Frame} {meth : Method} {c : Code} {b : Nat} (hx : p.tables.exec = Jvm.exec) (hb : c.code = code) (hr : meth.sig.returnType = ret) (hlocks : meth.locks = false) {pc : Nat} {H : Heap} {ls : Array Slot} (hdg : decode code pc = .ok (.ireturn, 1)) : W p l e room_1 s m #[Value.ref b] below meth c H [] 600000 7302250 (lw_Z below #[Value.ref b] s) (F0 m pc ls [.int 1]) := by
  intro T hT X
  obtain ⟨fs, hret, hrun, hended, hW, hframe⟩ := X.leave (v := some (.int 1)) (hlocks := hlocks) (fun h => by rw [hr] at h; cases h)
  have hmeth' : T.vm.method? m = some meth := X.method'
  refine ⟨T.setFrames fs, ?_, .returned (some (.int 1)), hrun, hended, rfl, ⟨_, rfl⟩, hW, hframe⟩
  jvm_step X.here [X.here.top, hx, hb, hdg, hmeth', hr, ret, narrow_b1]
  (try refine ⟨rfl, ?_⟩); (try refine ⟨rfl, ?_⟩)
  first | (intro acts; rw [hret _ acts rfl rfl rfl]) | rw [hret _ _ rfl rfl rfl]
  exact Steps.refl _
/-- what holds at the law's entry: the machine, the code, the tables' words (any of lw_tbl by 'hts w (by decide +kernel)'), the script of L ints xs at the cell b, what the Statement gives of the start (any of its parts by flat_of_before) -/
def lw_At (p : Program) (s : State) (m : MethodId) (meth : Method) (c : Code) (b L : Nat) (xs : Nat → Int32) : Prop :=
  p.tables.exec = Jvm.exec ∧ c.code = code ∧ meth.sig.returnType = ret ∧ c.maxLocals = 4 ∧ s.vm.findClass R_law = some m.cls ∧ (∀ w ∈ lw_tbl, w.before #[Value.ref b] s = true) ∧ va_X b L xs s s.heap ∧ b < s.heap.size ∧ meth.locks = false ∧ (Jvm.Cond.and given_1 narrow_1).before #[Value.ref b] s = true
/-! the law, out of a run of the interpreter -/
theorem xT_ok : ∀ i, i < 32 → (xT i = 40 ∨ xT i = 41 ∨ xT i = 99) ∧ (xT i = 40 → i = 0 ∨ i = 1) := by decide +kernel
theorem xT_s : ∀ i, i < 32 → xT i = 41 → 2 ≤ i ∧ i < 24 := by decide +kernel
theorem fl_mem {args : Array Value} {s : State} {c : Cond} (hgv : (Jvm.Cond.and given_1 narrow_1).before args s = true) (hc : c ∈ flatC (Jvm.Cond.and given_1 narrow_1)) : c.before args s = true := flat_of_before _ hgv c hc
set_option maxRecDepth 100000 in
theorem fl_fact : Cond.arrayOf (.static "FilesOpened" "FACTORIALS" "[I") .int ∈ flatC (Jvm.Cond.and given_1 narrow_1) ∧ Cond.eq (.length (.static "FilesOpened" "FACTORIALS" "[I")) (.int 9) ∈ flatC (Jvm.Cond.and given_1 narrow_1) ∧ Cond.eq (.static "java/lang/String" "COMPACT_STRINGS" "Z") (.int 1) ∈ flatC (Jvm.Cond.and given_1 narrow_1) ∧ Cond.isRef (.static "jdk/internal/util/Preconditions" "SIOOBE_FORMATTER" "Ljava/util/function/BiFunction;") ∈ flatC (Jvm.Cond.and given_1 narrow_1) := by
  refine ⟨?_, ?_, ?_, ?_⟩ <;> decide +kernel
set_option maxRecDepth 100000 in
theorem fl_facE : ∀ j, j < 9 → Cond.eq (.elem (.static "FilesOpened" "FACTORIALS" "[I") (.int (Int32.ofNat j))) (.int (([1, 1, 2, 6, 24, 120, 720, 5040, 40320] : List Int32).getD j 0)) ∈ flatC (Jvm.Cond.and given_1 narrow_1) := by decide +kernel
def tmS (i : Nat) : Term := .string (strT.getD i ("", 0, "")).1 (strT.getD i ("", 0, "")).2.1
set_option maxRecDepth 100000 in
theorem fl_str : ∀ i, i < 22 → Cond.exactly (tmS i) "java/lang/String" ∈ flatC (Jvm.Cond.and given_1 narrow_1) ∧ Cond.eq (.field (tmS i) "java/lang/String" "coder" "B") (.int 0) ∈ flatC (Jvm.Cond.and given_1 narrow_1) ∧ Cond.arrayOf (.field (tmS i) "java/lang/String" "value" "[B") .byte ∈ flatC (Jvm.Cond.and given_1 narrow_1) ∧ Cond.eq (.length (.field (tmS i) "java/lang/String" "value" "[B")) (.int (Int32.ofNat (lenS.getD i 0))) ∈ flatC (Jvm.Cond.and given_1 narrow_1) := by decide +kernel
def fbB : List Nat := [75, 185, 194, 204, 215, 226, 240, 253, 266, 281, 298, 317, 338, 357, 379, 402, 426, 451, 479, 506, 532, 559]
def fbE (i j : Nat) : Cond := Cond.eq (.elem (.field (tmS i) "java/lang/String" "value" "[B") (.int (Int32.ofNat j))) (.int ((bytS.getD i []).getD j 0))
def fbN (j i : Nat) : Cond := Cond.not (Cond.eq (tmS i) (tmS j))
set_option maxRecDepth 100000 in
theorem fl_blk : ∀ i, i < 22 → ((flatC (Jvm.Cond.and given_1 narrow_1)).drop (2 + fbB.getD i 0)).take (lenS.getD i 0 + i) = (List.range (lenS.getD i 0)).map (fbE i) ++ (List.range i).map (fbN i) := by decide +kernel
theorem fl_blm {i : Nat} (hi : i < 22) {c : Cond} (h : c ∈ (List.range (lenS.getD i 0)).map (fbE i) ++ (List.range i).map (fbN i)) : c ∈ flatC (Jvm.Cond.and given_1 narrow_1) := by
  rw [← fl_blk i hi] at h
  exact List.mem_of_mem_drop (List.mem_of_mem_take h)
theorem fl_strE : ∀ i, i < 22 → ∀ j, j < lenS.getD i 0 → Cond.eq (.elem (.field (tmS i) "java/lang/String" "value" "[B") (.int (Int32.ofNat j))) (.int ((bytS.getD i []).getD j 0)) ∈ flatC (Jvm.Cond.and given_1 narrow_1) := fun i hi j hj => fl_blm hi (List.mem_append.mpr (Or.inl (List.mem_map.mpr ⟨j, List.mem_range.mpr hj, rfl⟩)))
theorem fl_strN : ∀ i, i < 22 → ∀ j, j < 22 → i ≠ j → Cond.not (Cond.eq (tmS i) (tmS j)) ∈ flatC (Jvm.Cond.and given_1 narrow_1) ∨ Cond.not (Cond.eq (tmS j) (tmS i)) ∈ flatC (Jvm.Cond.and given_1 narrow_1) := fun i hi j hj ne => by
  rcases Nat.lt_or_ge i j with z | z
  · exact Or.inl (fl_blm hj (List.mem_append.mpr (Or.inr (List.mem_map.mpr ⟨i, List.mem_range.mpr z, rfl⟩))))
  · exact Or.inr (fl_blm hi (List.mem_append.mpr (Or.inr (List.mem_map.mpr ⟨j, List.mem_range.mpr (by omega), rfl⟩))))
/-- OPEN: out of a run of the law that answers 1 in its room -/
theorem whole_open (hrun : ∀ (L : Nat) (xs : Nat → Int32), L ≤ 4096 → ∃ h' : HS, ex 1300 306 (ent 306 [.ref 1] (hs0 L xs)) = some (some (.int 1), h') ∧ h'.1 - 32 ≤ 600000 ∧ h'.2.1 ≤ 7302250) {p : Program} {e : Env} {s : State} {m : MethodId} {below : List Frame} {meth : Method} {c : Code} (l : Launch) {b L : Nat} {xs : Nat → Int32} (hL : L ≤ 4096) (C0 : lw_At p s m meth c b L xs) : W p l e room_1 s m #[Value.ref b] below meth c s.heap [] 0 0 (lw_Z below #[Value.ref b] s) (entryFrame m ([Value.ref b] : List Value).toArray 4) := by
  obtain ⟨hx, hb, hr, hml, hown, hts, hX, hbl, hlocks, hgv⟩ := id C0
  have htw : ∀ w ∈ tw, w.before #[Value.ref b] s = true := fun w hw => hts w (List.mem_filter.mp hw).1
  have hA : ∀ a : Nat, a < s.heap.size → ¬ (fun q : Nat => s.heap.size ≤ q) a := fun a h => Nat.not_le.mpr h
  -- classes
  have hcl : ∀ q : Nat, ∃ z : ClassId × (Nat → Nat), q < 13 → u_Kn s (cN q) (cT q) (cF q) z.1 z.2 := by
    intro q
    by_cases hq : q < 13
    · obtain ⟨cC, iS, h⟩ := u_known (C := cN q) (T := cT q) (N := cF q) (n := cF q) htw (cls_lay hq) (htw _ (cls_inst hq).1)
      exact ⟨(cC, iS), fun _ => h⟩
    · exact ⟨(0, fun _ => 0), fun h => absurd h hq⟩
  obtain ⟨zD, hD⟩ := Classical.axiomOfChoice hcl
  -- rows
  obtain ⟨aw1, aw2, aw3, aw4⟩ := arrW
  have harr : ∀ q : Nat, ∃ cA : ClassId, q < 8 → ArrOfT s cA (tyA (20 + q)) ∧ va_RA s cA (tyA (20 + q)) := by
    intro q
    have prim : ∀ {ty : FieldType}, Cond.arrayClass ty ∈ tw → (∀ cA, s.vm.findClass ("[" ++ ty.toString) = some cA → va_RA s cA ty) → ∃ cA : ClassId, ArrOfT s cA ty ∧ va_RA s cA ty := by
      intro ty hw hq
      obtain ⟨cA, kA, comp, h1, h2, h3⟩ := Cond.arrayClass_spec (htw _ hw)
      exact ⟨cA, fun n z => ⟨(fun k h => by cases h), kA, h2, comp, h3⟩, hq cA h1⟩
    have obj : ∀ {C : String}, Cond.arrayOver (.object C) ∈ lw_tbl → ∃ cA : ClassId, ArrOfT s cA (.object C) ∧ va_RA s cA (.object C) := by
      intro C hw
      obtain ⟨comp, cA, kA, h1, h2, h3, h4, h5⟩ := Cond.arrayOver_spec (hts _ hw)
      exact ⟨cA, fun n z => ⟨(fun k h => by cases h), kA, h3, comp, h4⟩, kA, comp, h3, h4, h1, h5⟩
    by_cases hq : q < 8
    · have : ∃ cA : ClassId, ArrOfT s cA (tyA (20 + q)) ∧ va_RA s cA (tyA (20 + q)) := by
        rcases (show q = 0 ∨ q = 1 ∨ q = 2 ∨ q = 3 ∨ q = 4 ∨ q = 5 ∨ q = 6 ∨ q = 7 by omega) with rfl | rfl | rfl | rfl | rfl | rfl | rfl | rfl
        · exact prim aw1 (fun _ h => h)
        · exact prim aw2 (fun _ h => h)
        · exact prim aw3 (fun _ h => h)
        · exact prim aw4 (fun _ h => h)
        · exact obj (C := R9) (List.mem_of_getElem? (i := lkV.1) (by decide +kernel))
        · exact obj (C := R1) (List.mem_of_getElem? (i := lkV.2.1) (by decide +kernel))
        · exact obj (C := R6) (List.mem_of_getElem? (i := lkV.2.2.1) (by decide +kernel))
        · exact obj (C := R5) (List.mem_of_getElem? (i := lkV.2.2.2) (by decide +kernel))
      obtain ⟨cA, h⟩ := this
      exact ⟨cA, fun _ => h⟩
    · exact ⟨0, fun h => absurd h hq⟩
  obtain ⟨zA, hAr⟩ := Classical.axiomOfChoice harr
  -- statics and texts
  obtain ⟨ff1, ff2, ff3, ff4⟩ := fl_fact
  obtain ⟨aF, evF, hF⟩ := va_Tof (f := fun j => .int (([1, 1, 2, 6, 24, 120, 720, 5040, 40320] : List Int32).getD j 0)) (N := 9) (A := fun q : Nat => s.heap.size ≤ q) (by decide) (fl_mem hgv ff1) (va_eqt (fl_mem hgv ff2)) (fun j hj => va_eqt (fl_mem hgv (fl_facE j hj))) hA
  have hZF := va_Zof (C := "FilesOpened") (n := "FACTORIALS") (d := "[I") (A := fun q : Nat => s.heap.size ≤ q) (hts _ (List.mem_of_getElem? (i := lkU.1) (by decide +kernel))) (hts _ (List.mem_of_getElem? (i := lkJ.getD 11 0) (by decide +kernel))) evF hA
  have hZC := va_Zof (C := "java/lang/String") (n := "COMPACT_STRINGS") (d := "Z") (v := .int 1) (A := fun q : Nat => s.heap.size ≤ q) (hts _ (List.mem_of_getElem? (i := lkU.2.1) (by decide +kernel))) (hts _ (List.mem_of_getElem? (i := lkU.2.2.1) (by decide +kernel))) (va_eqi (fl_mem hgv ff3)) hA
  have hZP := va_Zqof (C := "jdk/internal/util/Preconditions") (n := "SIOOBE_FORMATTER") (d := "Ljava/util/function/BiFunction;") (A := fun q : Nat => s.heap.size ≤ q) (hts _ (List.mem_of_getElem? (i := lkU.2.2.2.1) (by decide +kernel))) (hts _ (List.mem_of_getElem? (i := lkU.2.2.2.2) (by decide +kernel))) (fl_mem hgv ff4) hA
  obtain ⟨adK, adV, hS, evS⟩ := vk_Sof (N := 22) (tm := tmS) (len := lenS) (byt := bytS) (A := fun q : Nat => s.heap.size ≤ q) (args := #[Value.ref b]) (s := s) (by decide +kernel) (fun i hi => fl_mem hgv (fl_str i hi).1) (fun i hi => fl_mem hgv (fl_str i hi).2.1) (fun i hi => fl_mem hgv (fl_str i hi).2.2.1) (fun i hi => fl_mem hgv (fl_str i hi).2.2.2) (fun i hi j hj => fl_mem hgv (fl_strE i hi j hj))
    (fun i j hi hj hne => (fl_strN i hi j hj hne).imp (fun z => fl_mem hgv z) (fun z => fl_mem hgv z)) hA
  let g : GX := ((fun q => (zD q).1, fun q => (zD q).2), zA, (fun i => if i = 0 then aF else if i = 1 then b else adK (i - 2)), s.heap)
  let xt : XT := (xT, xN L, xI xs)
  have hK : KS g xt s := by
    refine ⟨⟨fun q z hz => ?_, fun q z hz => ?_⟩, fun w hw => ?_, fun i hi e => ?_, hZF, fun C hC => ?_, fun i hi => ?_, ⟨adV, ?_⟩, ?_, hZC, hZP, ?_⟩
    · have hq : q < 13 := (List.getElem?_eq_some_iff.mp hz).1
      rw [cls_at hq] at hz
      cases hz
      exact hD q hq
    · unfold tyL at hz
      rw [List.getElem?_map] at hz
      have hq : q < 8 := by
        rcases Nat.lt_or_ge q 8 with z1 | z1
        · exact z1
        · rw [List.getElem?_eq_none (by rw [List.length_range]; exact z1)] at hz; cases hz
      rw [List.getElem?_range hq] at hz
      cases hz
      exact hAr q hq
    · have hm := (List.mem_filter.mp hw).1
      rcases nestW_kind hw with ⟨a, i, x, y, rfl⟩ | ⟨a, i, b2, n, d, y, rfl⟩ | ⟨a, b2, rfl⟩ <;> exact va_Nw.of rfl (hts _ hm)
    · rcases (xT_ok i hi).2 e with rfl | rfl
      · exact hF
      · obtain ⟨scr, y1, y2, y3, y4, y5⟩ := hX
        exact ⟨scr, y1, y2, y3, by show xN L 1 ≤ _; rw [y4]; exact Nat.le_refl _, by rw [y4]; rfl, fun j hj => y5 j hj, hA b hbl⟩
    · rcases hC with rfl | rfl | rfl | rfl
      · exact va_AO.of (hts _ (List.mem_of_getElem? (i := lkV.1) (by decide +kernel)))
      · exact va_AO.of (hts _ (List.mem_of_getElem? (i := lkV.2.1) (by decide +kernel)))
      · exact va_AO.of (hts _ (List.mem_of_getElem? (i := lkV.2.2.1) (by decide +kernel)))
      · exact va_AO.of (hts _ (List.mem_of_getElem? (i := lkV.2.2.2) (by decide +kernel)))
    · have hw : ∀ i, i < 22 → Cond.stringRef (strT.getD i ("", 0, "")).1 (strT.getD i ("", 0, "")).2.1 (strT.getD i ("", 0, "")).2.2 ∈ lw_tbl := by decide +kernel
      have e0 : gE g (2 + i) = adK i := by
        show (if 2 + i = 0 then aF else if 2 + i = 1 then b else adK (2 + i - 2)) = adK i
        rw [if_neg (by omega), if_neg (by omega), show 2 + i - 2 = i by omega]
      rw [e0]
      exact vk_R.of (hts _ (hw i hi)) (evS i hi)
    · have e0 : (fun i => gE g (2 + i)) = adK := funext fun i => by
        show (if 2 + i = 0 then aF else if 2 + i = 1 then b else adK (2 + i - 2)) = adK i
        rw [if_neg (by omega), if_neg (by omega), show 2 + i - 2 = i by omega]
      rw [e0]
      exact hS
    · intro i hi
      have h1 : ∀ i, i < 22 → xT (2 + i) = 41 ∧ tN0.getD (2 + i) 0 = lenS.getD i 0 := by decide +kernel
      refine ⟨(h1 i hi).1, ?_, fun j hj => ?_⟩
      · show xN L (2 + i) = _
        unfold xN
        rw [if_neg (by omega)]
        exact (h1 i hi).2
      · show xI xs (2 + i) j = _
        unfold xI
        rw [if_neg (by omega), if_neg (by omega), show 2 + i - 2 = i by omega]
    · exact xT_s
  have hRel : Rel g xt (hs0 L xs) s.heap := by
    refine ⟨rfl, Nat.le_refl _, fun i h1 h2 => absurd h2 (by show ¬ i < 32; omega), fun i h => ?_, fun q _ => rfl, fun i hi => ⟨rfl, rfl, fun _ => rfl, (xT_ok i hi).1⟩⟩
    have h : 32 ≤ i := h
    show xT i = 99
    unfold xT
    rw [if_neg (by omega)]
  obtain ⟨h', hex, hc1, hc2⟩ := hrun L xs hL
  obtain ⟨n, hn⟩ := ex_run hex
  have C1 : Ctx p s m #[Value.ref b] meth c g xt 306 := ⟨by decide, hx, hb, hml, hown, htw, hK, fun z => absurd z (by decide)⟩
  have hG := walk (l := l) (g := g) (xt := xt) n (fun n' _ d k as h v h' => sound n' d k as h v h') p e room_1 s m #[Value.ref b] below meth c (lw_Z below #[Value.ref b] s) 32 0 306 1300 _ _ h' C1 ⟨Nat.le_of_ble_eq_true rfl, Nat.le_of_ble_eq_true rfl⟩ hn ⟨hc1, hc2⟩ (fun pc ls st hs => by
    intro H locs la hr2 hlo hLR g1 g2
    unfold stp at hs
    split at hs
    · next ins a2 b2 x2 hf =>
      simp only at hf hs
      obtain ⟨⟨-, hd⟩, -⟩ := fetch_ok (by decide) hf
      rcases sti_ret hs with ⟨y, rfl, rfl, hv, -⟩ | ⟨y, rfl, rfl, hv⟩ | ⟨w, rfl, rfl, hv, hw⟩ | ⟨rfl, rfl, hv⟩
      · cases hv
        exact va_forget hlo (W.widen hc1 hc2 (lw_ret hx hb hr hlocks (hd rfl)))
      · cases hv
      · cases hv
        exfalso
        cases hw with
        | inl q => cases q
        | inr q => exact q.elim (fun o q => nomatch q)
      · cases hv
    · cases hs)
  have h0 := hG s.heap [] _ hRel (fun q hq => by cases hq) (ent_ok g [.ref 1] 4 (Nat.le_of_ble_eq_true rfl)) (Nat.le_refl _) (Nat.le_refl _)
  have hl := lg_entry_eq m [Value.ref b] 4
  rw [hl]
  exact h0

theorem whole_start {p : Program} {e : Env} {s : State} {m : MethodId} {below : List Frame} {meth : Method} {c : Code} (l : Launch) (hflags : l.flags = flags0) {b L : Nat} {xs : Nat → Int32} (hL : L ≤ 4096) (C0 : lw_At p s m meth c b L xs) : W p l e room_1 s m #[Value.ref b] below meth c s.heap [] 0 0 (lw_Z below #[Value.ref b] s) (entryFrame m ([Value.ref b] : List Value).toArray 4) := whole_open whole_run l hL C0
set_option maxHeartbeats 4000000 in
theorem lw_walk (l : Launch) (hflags : l.flags = flags0) (b : Addr) (xs : List Int32) : MetFree l x (headSpec (Jvm.Cond.code x code maxLocals ret :: tables_1) room_1) (lw_P b xs) (fun _ _ _ _ _ => True) lw_Q := by
  refine MetFree.of_bodyS (code := code) (maxLocals := maxLocals) (ret := ret) (by decide) ?_ ?_
  · intro args s m h hn
    obtain ⟨meth, c, h1, h2, h3, h4, h5, h6, -, -⟩ := Cond.code_spec hn (atoms_spec (ws := Jvm.Cond.code x code maxLocals ret :: tables_1) h _ List.mem_cons_self)
    exact ⟨meth, c, h1, h2, h3, h4, h5, h6⟩
  · intro p e s m args below meth c s₁ B hml0 hP _
    obtain ⟨rfl, hx, hbd, hgv⟩ := hP
    obtain ⟨scr, harrAt, hlist, hof, hsmall⟩ := hx
    obtain ⟨hcb, hkn, -, -⟩ := State.arrayAt?_spec harrAt
    have hown : s.vm.findClass R_law = some m.cls := findClass_of_methodNamed B.named
    have hts0 : ∀ c ∈ (Jvm.Cond.code x code maxLocals ret :: tables_1), c.before #[Value.ref b] s = true := atoms_spec (ws := Jvm.Cond.code x code maxLocals ret :: tables_1) B.pre
    have hts : ∀ w ∈ lw_tbl, w.before #[Value.ref b] s = true := k2_hts_sels lw_privs (fun w hw => hts0 w (List.mem_cons_of_mem _ hw)) lw_privs_ok
    have hml : c.maxLocals = 4 := B.maxLocals_eq (hts0 _ List.mem_cons_self)
    have X₀ : Stand p l e room_1 s m #[Value.ref b] below meth c s₁ [] 0 0 := Stand.of_body B
    have hh0 : s₁.heap = s.heap := by rw [B.state]; rfl
    have hsz : scr.slots.size = xs.length := by rw [← Array.length_toList, hlist, List.length_map]
    have hval : ∀ j : Nat, j < xs.length → scr.slots[j]? = some (.int (xs.getD j 0)) := fun j hj => by
      rw [← Array.getElem?_toList, hlist]
      simp [hj]
    have hbl : b < s.heap.size := (Array.getElem?_eq_some_iff.mp hcb).1
    have hX : va_X b xs.length (fun j => xs.getD j 0) s s.heap := ⟨scr, hcb, hof, hkn, hsz, hval⟩
    have K : W p l e room_1 s m #[Value.ref b] below meth c s₁.heap [] 0 0 (lw_Z below #[Value.ref b] s) (entryFrame m ([Value.ref b] : List Value).toArray 4) := by
      rw [hh0]
      exact whole_start l hflags hbd ⟨B.exec, B.bytes, B.returns, hml, hown, hts, hX, hbl, B.notSynchronized, hgv⟩
    obtain ⟨t, a1, o, b1, b2, b3⟩ := K s₁ rfl X₀
    exact ⟨t, o, a1, b1, b2, b3⟩
theorem lw_pre_spec {args : Array Value} {s : State} (h : (Jvm.Cond.and given_1 narrow_1).before args s = true) (hr : rest_1_c.before args s = true) : ∃ (b : Addr) (xs : List Int32), lw_P b xs args s := by
  have hs := flat_of_before _ h
  have hq := flat_of_before _ hr
  have hc : (Cond.count 1).before args s = true := hs _ (by decide +kernel)
  have harr : (Cond.arrayOf (.arg 0) .int).before args s = true := hs _ (by decide +kernel)
  have hle : (Cond.le (.length (.arg 0)) (.int 4096)).before args s = true := hs _ (by decide +kernel)
  have hlen : (Cond.isInt (.length (.arg 0))).before args s = true := hq _ (by decide +kernel)
  have hall : (Cond.all (.arg 0) (.isInt (.elem (.arg 0) (.index 0)))).before args s = true := hq _ (by decide +kernel)
  obtain ⟨b, xs, hb, hx⟩ := State.ints_of_pre rfl harr hlen hall
  have hsm : xs.length < 2 ^ 31 := hx.choose_spec.2.2.2
  have hev : (Term.length (.arg 0)).eval args s none [] s = some (.int xs.length.toInt32) := hx.length_eval hb
  have hv := Cond.le_ints hev (show (Term.int 4096).eval args s none [] s = some (.int 4096) from rfl)
  have hd : xs.length.toInt32 ≤ 4096 := by
    simpa [Cond.before, Cond.holds, hv] using hle
  have hN : xs.length ≤ 4096 := (Int32.ofNat_le_ofNat hsm (by decide)).mp (show Int32.ofNat xs.length ≤ Int32.ofNat 4096 from hd)
  exact ⟨b, xs, Cond.one_arg hc (show args[0]? = some (.ref b) from hb), hx, hN, h⟩
theorem lw_comes (l : Launch) (hflags : l.flags = flags0) : Comes l x (Jvm.Cond.code x code maxLocals ret :: tables_1) room_1 (fun tb e args s => Calls_1 tb e args s ∧ rest_1 tb e args s ∧ Pre_1 tb e args s)
    (fun _ _ args s o t => lw_Q args s o t) := by
  intro p e ha hc hk s m args below hf hfit hheap happ hpre
  obtain ⟨b, xs, hP⟩ := lw_pre_spec hpre.2.2 hpre.2.1
  obtain ⟨k, o, h1, h2, h3, hQ⟩ := lw_walk l hflags b xs p e ha hc hk s m args below hf ((Spec.applies_iff_loose hf).mp happ).1 hP trivial
  exact ⟨k, o, h1, h2, h3, hQ⟩
theorem lw_frame {s t : State} {o : Outcome} {args : Array Value} (h : Framed s o t [] 600000 7302250) :
    Framed s o t (fieldLocs frame_1_writes args s ++ arrayLocs frame_1_arrays args s ++ staticLocs frame_1_statics s) 600000 7302250 := h
theorem lw_limb (L : Cond) (hL : ∀ (args : Array Value) (s t : State), L.after args s (.returned (some (.int 1))) t = true) :
    ArmFor flags0 classFile x code maxLocals ret World_1 tables_1 room_1 Calls_1 rest_1 Pre_1
      (fun tb e a s o t => postC L tb e a s o t ∧ Framed s o t (fieldLocs frame_1_writes a s ++ arrayLocs frame_1_arrays a s ++ staticLocs frame_1_statics s) 600000 7302250) := by
  intro l hflags _ _ p e ha hc hk s m args below hf hfit hheap happ hpre
  obtain ⟨k, o, h1, h2, h3, rfl, hF⟩ := lw_comes l hflags p e ha hc hk s m args below hf hfit hheap happ hpre
  exact ⟨k, _, h1, h2, h3, hL args s _, lw_frame hF⟩
theorem i_vc : Claimed_1_1 ∧ Claimed_1_2 := ⟨lw_limb limb_1_1 (fun args s t => by simp [limb_1_1, Cond.after, Cond.holds, Cond.value]), lw_limb limb_1_2 (fun args s t => Cond.after_iff.mpr (by
  first | (rw [show limb_1_2 = Cond.eq .result (.int 1) from rfl, Cond.eq_ints (x := 1) (y := 1) rfl rfl]; simp; done) | (simp [limb_1_2, Cond.value, Term.eval]; done)))⟩

