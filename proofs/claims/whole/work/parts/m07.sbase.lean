/-! the interpreter and the machine: what the relation is, and its base -/
/-- the fixed things of a run: the classes' numbers, the arrays' classes, the first address of ours, the addresses of what lay there before, the heap before -/
abbrev GX : Type := ((Nat → ClassId) × (Nat → Nat → Nat)) × (Nat → ClassId) × (Nat → Nat) × Heap
def gD (g : GX) : va_G := g.1
def gA (g : GX) : Nat → ClassId := g.2.1
def gE (g : GX) : Nat → Nat := g.2.2.1
def gH (g : GX) : Heap := g.2.2.2
def gb (g : GX) : Nat := (gH g).size
def ad (g : GX) (i : Nat) : Nat := if i < 32 then gE g i else gb g + (i - 32)
def emb (g : GX) (v : Value) : Value := match v with
  | .ref i => .ref (ad g i)
  | v => v
theorem emb_int (g : GX) (x : Int32) : emb g (.int x) = .int x := rfl
theorem emb_long (g : GX) (x : Int64) : emb g (.long x) = .long x := rfl
theorem emb_ref (g : GX) (x : Nat) : emb g (.ref x) = .ref (ad g x) := rfl
theorem emb_null (g : GX) : emb g .null = .null := rfl
theorem emb_rf (g : GX) (x : Option Nat) : emb g (va_rf x) = va_rf (x.map (ad g)) := by cases x <;> rfl
theorem emb_cat (g : GX) (v : Value) : (emb g v).category = v.category := by cases v <;> rfl
def tyA (t : Nat) : FieldType := if t = 20 then .int else if t = 21 then .byte else if t = 22 then .boolean else if t = 23 then .long else if t = 24 then .object R9 else if t = 25 then .object R1 else if t = 26 then .object R6 else .object R5
def tyL (g : GX) : List (ClassId × FieldType) := (List.range 8).map (fun i => (gA g i, tyA (20 + i)))
def fvl (g : GX) (h : HS) (i : Nat) (ty : FieldType) (k : Nat) : Value := match ty with
  | .int => .int (hI h i k)
  | .boolean => .int (hI h i k)
  | _ => va_rf ((hR h i k).map (ad g))
def flds (g : GX) (h : HS) (i c : Nat) : List Value := (List.range (cF c)).map (fun k => fvl g h i (cY c k) k)
def arrE (g : GX) (h : HS) (i t : Nat) : vp_A := if t = 23 then (hN h i, .inr (.inl (fun j => hL h i j))) else if 24 ≤ t then (hN h i, .inr (.inr (.inr (.inr (fun j => (hR h i j).map (ad g)))))) else (hN h i, .inl (fun j => hI h i j))
def cellE (g : GX) (h : HS) (i : Nat) : va_E := if hT h i < 13 then .inr (hT h i, flds g h i (hT h i)) else .inl (gA g (hT h i - 20), arrE g h i (hT h i))
/-- what was there before: its tags, sizes, contents (rows of ints, texts) -/
abbrev XT : Type := (Nat → Nat) × (Nat → Nat) × (Nat → Nat → Int32)
def Rel (g : GX) (xt : XT) (h : HS) (H : Heap) : Prop :=
  H.size = gb g + (h.1 - 32) ∧ 32 ≤ h.1 ∧ (∀ i, 32 ≤ i → i < h.1 → va_at (gD g) clsL (ad g i, cellE g h i) H ∧ (hT h i < 13 ∨ (20 ≤ hT h i ∧ hT h i < 28))) ∧ (∀ i, h.1 ≤ i → hT h i = 99) ∧ (∀ q, q < gb g → H[q]? = (gH g)[q]?) ∧ (∀ i, i < 32 → hT h i = xt.1 i ∧ hN h i = xt.2.1 i ∧ (∀ k, hI h i k = xt.2.2 i k) ∧ (xt.1 i = 40 ∨ xt.1 i = 41 ∨ xt.1 i = 99))
def nestW : List Cond := lw_tbl.filter (fun w => match w with
  | .methodLinkNest _ _ _ _ => true
  | .fieldLinkNest _ _ _ _ _ _ => true
  | .castable _ _ => true
  | _ => false)
def tw : List Cond := lw_tbl.filter goodWord
/-- what is said of the tables, beside the words: closed under what the machine warms -/
def KS (g : GX) (xt : XT) (U : State) : Prop :=
  va_K (gD g) clsL (tyL g) U ∧ (∀ w ∈ nestW, va_Nw w U) ∧ (∀ i, i < 32 → xt.1 i = 40 → va_T .int (gE g i) (xt.2.1 i) (fun j => .int (xt.2.2 i j)) (fun q => gb g ≤ q) U (gH g)) ∧ va_Z R11 "FACTORIALS" "[I" (.ref (gE g 0)) (fun q => gb g ≤ q) U (gH g) ∧
  (∀ C, C = R9 ∨ C = R1 ∨ C = R6 ∨ C = R5 → va_AO C U) ∧
  (∀ i, i < 22 → vk_R (strT.getD i ("", 0, "")).1 (strT.getD i ("", 0, "")).2.1 (strT.getD i ("", 0, "")).2.2 (gE g (2 + i)) U) ∧ (∃ adV : Nat → Nat, vk_S 22 lenS bytS (fun i => gE g (2 + i)) adV (fun q => gb g ≤ q) U (gH g)) ∧
  (∀ i, i < 22 → xt.1 (2 + i) = 41 ∧ xt.2.1 (2 + i) = lenS.getD i 0 ∧ ∀ j, j < lenS.getD i 0 → xt.2.2 (2 + i) j = (bytS.getD i []).getD j 0) ∧
  va_Z "java/lang/String" "COMPACT_STRINGS" "Z" (.int 1) (fun q => gb g ≤ q) U (gH g) ∧ va_Zq "jdk/internal/util/Preconditions" "SIOOBE_FORMATTER" "Ljava/util/function/BiFunction;" (fun q => gb g ≤ q) U (gH g) ∧
  (∀ i, i < 32 → xt.1 i = 41 → 2 ≤ i ∧ i < 24)
theorem nestW_kind {w : Cond} (h : w ∈ nestW) : (∃ a i x h, w = .methodLinkNest a i x h) ∨ (∃ a i b n d h, w = .fieldLinkNest a i b n d h) ∨ (∃ a b, w = .castable a b) := by
  have := (List.mem_filter.mp h).2
  cases w <;> first | exact Or.inl ⟨_, _, _, _, rfl⟩ | exact Or.inr (Or.inl ⟨_, _, _, _, _, _, rfl⟩) | exact Or.inr (Or.inr ⟨_, _, rfl⟩) | cases this
theorem va_Z_moved {C n d : String} {v : Value} {A : Nat → Prop} {s U : State} {H : Heap} (hW : s.WarmedH U.vm) (h : va_Z C n d v A s H) : va_Z C n d v A U H := va_Z.moved hW.alike h
theorem KS.warm {g : GX} {xt : XT} {s U : State} (hW : s.WarmedH U.vm) (h : KS g xt s) : KS g xt U := by
  obtain ⟨h1, h2, h3, h4, h5, h6, ⟨adV, h7⟩, h8, h9, h10⟩ := h
  refine ⟨va_K.moved hW.alike h1, fun w hw => ?_, fun i hi e => va_T.moved hW.alike (h3 i hi e), va_Z_moved hW h4, fun C hC => va_AO.moved hW.alike (h5 C hC), fun i hi => vk_R.warm hW (h6 i hi), ⟨adV, vk_S.moved hW.alike h7⟩, h8, va_Z.moved hW.alike h9, va_Zq.moved hW.alike h10.1, h10.2⟩
  rcases nestW_kind hw with ⟨a, i, x, y, rfl⟩ | ⟨a, i, b, n, d, y, rfl⟩ | ⟨a, b, rfl⟩
  · exact va_Nw.warmM hW (h2 _ hw)
  · exact va_Nw.warmF hW (h2 _ hw)
  · exact va_Nw.warmC hW (h2 _ hw)
theorem KS.call {g : GX} {xt : XT} {a : Array Value} {s : State} {f : JFrame} {mk : MethodId} (h : KS g xt s) : KS g xt (s.calling f mk a) := by
  obtain ⟨h1, h2, h3, h4, h5, h6, ⟨adV, h7⟩, h8, h9, h10⟩ := h
  have hv : s.vm.Alike (s.calling f mk a).vm := Vm.Alike.refl s.vm
  refine ⟨va_K.moved hv h1, fun w hw => ?_, fun i hi e => va_T.moved hv (h3 i hi e), va_Z.moved hv h4, fun C hC => va_AO.moved hv (h5 C hC), fun i hi => vk_R.same rfl (h6 i hi), ⟨adV, vk_S.moved hv h7⟩, h8, va_Z.moved hv h9, va_Zq.moved hv h10.1, h10.2⟩
  rcases nestW_kind hw with ⟨a, i, x, y, rfl⟩ | ⟨a, i, b, n, d, y, rfl⟩ | ⟨a, b, rfl⟩
  · exact va_Nw.same rfl rfl (h2 _ hw)
  · exact va_Nw.same rfl rfl (h2 _ hw)
  · exact va_Nw.same rfl rfl (h2 _ hw)
theorem ad_lt {g : GX} {i : Nat} (h : 32 ≤ i) : ad g i = gb g + (i - 32) := by unfold ad; rw [if_neg (by omega)]
theorem ad_inj {g : GX} {i j : Nat} (hi : 32 ≤ i) (hj : 32 ≤ j) (h : ad g i = ad g j) : i = j := by
  rw [ad_lt hi, ad_lt hj] at h; omega
/-- the locals -/
def asl (g : GX) (ls : Lo) : List (Nat × Value) := (List.range ls.length).filterMap (fun i => match ls[i]? with
  | some (some v) => some (i, emb g v)
  | _ => none)
theorem mem_asl {g : GX} {ls : Lo} {q : Nat × Value} : q ∈ asl g ls ↔ ∃ v, ls[q.1]? = some (some v) ∧ q.2 = emb g v := by
  unfold asl
  rw [List.mem_filterMap]
  constructor
  · rintro ⟨i, hi, h⟩
    split at h
    · next v hv => cases h; exact ⟨v, hv, rfl⟩
    · cases h
  · rintro ⟨v, hv, h⟩
    refine ⟨q.1, List.mem_range.mpr ((List.getElem?_eq_some_iff.mp hv).1), ?_⟩
    rw [hv]
    simp only
    rw [← h]
def LR (g : GX) (la : Array Slot) (nL : Nat) (ls : Lo) : Prop := ls.length = nL ∧ lv_has la nL (asl g ls)
theorem LR.get {g : GX} {la : Array Slot} {nL i : Nat} {ls : Lo} {v : Value} (h : LR g la nL ls) (hv : ls[i]? = some (some v)) : la[i]? = some (.val (emb g v)) :=
  h.2.2.2 (i, emb g v) (mem_asl.mpr ⟨v, hv, rfl⟩)
theorem kill_len (ls : Lo) (i : Nat) : (kill ls i).length = ls.length := by
  unfold kill
  split
  · rfl
  · split <;> simp
theorem kill_get {ls : Lo} {i j : Nat} {v : Value} (h : (kill ls i)[j]? = some (some v)) : ls[j]? = some (some v) ∧ (j + 1 = i → v.category = 1) := by
  unfold kill at h
  split at h
  · exact ⟨h, fun e => by omega⟩
  · next j0 =>
    split at h
    · next x hx =>
      rw [List.getElem?_set] at h
      split at h
      · split at h <;> cases h
      · next hne => exact ⟨h, fun e => absurd (by omega) hne⟩
    · next x hx =>
      rw [List.getElem?_set] at h
      split at h
      · split at h <;> cases h
      · next hne => exact ⟨h, fun e => absurd (by omega) hne⟩
    · next h1 h2 =>
      refine ⟨h, fun e => ?_⟩
      have e' : j = j0 := by omega
      subst e'
      cases v with
      | long x => exact absurd h (h1 x)
      | double x => exact absurd h (h2 x)
      | _ => rfl
theorem stl1_ok {g : GX} {la : Array Slot} {nL i : Nat} {ls : Lo} {v : Value} (hlen : ls.length = nL) (h : lv_has la nL ((i, emb g v) :: (asl g ls).filter (fun q => !(q.1 == i) && !(q.1 + 1 == i && q.2.category == 2)))) : LR g la nL (stl1 ls i v) := by
  refine ⟨by unfold stl1; rw [List.length_set, kill_len]; exact hlen, h.1, h.2.1, fun q hq => ?_⟩
  obtain ⟨w, hw, hq2⟩ := mem_asl.mp hq
  refine h.2.2 q ?_
  unfold stl1 at hw
  rw [List.getElem?_set] at hw
  split at hw
  · next e =>
    split at hw
    · cases hw
      refine List.mem_cons.mpr (Or.inl ?_)
      rw [e, ← hq2]
    · cases hw
  · next e =>
    obtain ⟨h1, h2⟩ := kill_get hw
    refine List.mem_cons.mpr (Or.inr (List.mem_filter.mpr ⟨mem_asl.mpr ⟨w, h1, hq2⟩, ?_⟩))
    have e' : ¬ q.1 = i := fun z => e z.symm
    rw [hq2, emb_cat]
    by_cases hc : q.1 + 1 = i
    · simp [e', hc, h2 hc]
    · simp [e', hc]
theorem stl2_ok {g : GX} {la : Array Slot} {nL i : Nat} {ls : Lo} {v : Value} (hlen : ls.length = nL) (h : lv_has la nL ((i, emb g v) :: (asl g ls).filter (fun q => !(q.1 == i) && (!(q.1 == i + 1) && !(q.1 + 1 == i && q.2.category == 2))))) : LR g la nL (stl2 ls i v) := by
  refine ⟨by unfold stl2; rw [List.length_set, List.length_set, kill_len]; exact hlen, h.1, h.2.1, fun q hq => ?_⟩
  obtain ⟨w, hw, hq2⟩ := mem_asl.mp hq
  refine h.2.2 q ?_
  unfold stl2 at hw
  rw [List.getElem?_set] at hw
  split at hw
  · split at hw <;> cases hw
  · next e1 =>
    rw [List.getElem?_set] at hw
    split at hw
    · next e =>
      split at hw
      · cases hw
        refine List.mem_cons.mpr (Or.inl ?_)
        rw [e, ← hq2]
      · cases hw
    · next e =>
      obtain ⟨h1, h2⟩ := kill_get hw
      refine List.mem_cons.mpr (Or.inr (List.mem_filter.mpr ⟨mem_asl.mpr ⟨w, h1, hq2⟩, ?_⟩))
      have e' : ¬ q.1 = i := fun z => e z.symm
      have e1' : ¬ q.1 = i + 1 := fun z => e1 z.symm
      rw [hq2, emb_cat]
      by_cases hc : q.1 + 1 = i
      · simp [e', e1', hc, h2 hc]
      · simp [e', e1', hc]
/-- the entry's locals -/
theorem elocs_len (vs : List Value) (g : GX) : (elocs vs).length = (lg_sl (vs.map (emb g))).length := by
  induction vs with
  | nil => rfl
  | cons v r ih =>
    unfold elocs
    rw [List.map_cons]
    show _ = (lg_sl (emb g v :: List.map (emb g) r)).length
    have : lg_sl (emb g v :: List.map (emb g) r) = (if (emb g v).category = 2 then [.val (emb g v), .second] else [.val (emb g v)]) ++ lg_sl (List.map (emb g) r) := by
      simp [lg_sl]
    rw [this, emb_cat]
    split
    · simp [ih]
    · simp [ih]
theorem elocs_args (g : GX) : ∀ (vs : List Value) (i0 j : Nat) (v : Value), (elocs vs)[j]? = some (some v) → (i0 + j, emb g v) ∈ lv_args i0 (vs.map (emb g))
  | [], _, j, v, h => by simp [elocs] at h
  | w :: r, i0, j, v, h => by
    rw [List.map_cons]
    unfold lv_args
    rw [emb_cat]
    unfold elocs at h
    split at h
    · next hc =>
      rw [if_pos hc]
      match j, h with
      | 0, h => cases h; exact List.mem_cons_self
      | 1, h => cases h
      | j + 2, h =>
        refine List.mem_cons_of_mem _ ?_
        have := elocs_args g r (i0 + 2) j v (by simpa using h)
        rw [show i0 + (j + 2) = i0 + 2 + j by omega]
        exact this
    · next hc =>
      rw [if_neg hc]
      match j, h with
      | 0, h => cases h; exact List.mem_cons_self
      | j + 1, h =>
        refine List.mem_cons_of_mem _ ?_
        have := elocs_args g r (i0 + 1) j v (by simpa using h)
        rw [show i0 + (j + 1) = i0 + 1 + j by omega]
        exact this
theorem ent_ok (g : GX) (as : List Value) (nL : Nat) (h : (elocs as).length ≤ nL) : LR g ((lg_sl (as.map (emb g)) ++ List.replicate (nL - (lg_sl (as.map (emb g))).length) Slot.unset).toArray) nL (elocs as ++ List.replicate (nL - (elocs as).length) none) := by
  have hl := elocs_len as g
  have h0 := lv_entry (as.map (emb g)) (n := nL) (by rw [← hl]; exact h)
  refine ⟨by rw [List.length_append, List.length_replicate]; omega, h0.1, h0.2.1, fun q hq => ?_⟩
  obtain ⟨v, hv, hq2⟩ := mem_asl.mp hq
  refine h0.2.2 q ?_
  have hin : (elocs as)[q.1]? = some (some v) := by
    rw [List.getElem?_append] at hv
    split at hv
    · exact hv
    · rw [List.getElem?_replicate] at hv
      split at hv <;> cases hv
  have := elocs_args g as 0 q.1 v hin
  rw [Nat.zero_add, ← hq2] at this
  exact this
/-! the tables' words -/
theorem tw_of {w : Cond} {i : Nat} (h : lw_tbl[i]? = some w) (hg : goodWord w = true) : w ∈ tw := List.mem_filter.mpr ⟨List.mem_of_getElem? h, hg⟩
theorem oN_ok {k : Nat} (h : k < 312) : oN (qo k) = (qy k).cls ∧ qo k < 17 := by
  have : ∀ k, k < 312 → oN (qo k) = (qy k).cls ∧ qo k < 17 := by decide +kernel
  exact this k h
theorem getD_mem {α : Type} {l : List (List α)} {o : Nat} {x : α} (h : x ∈ l.getD o []) : o < l.length := by
  rcases Nat.lt_or_ge o l.length with q | q
  · exact q
  · rw [List.getD_eq_getElem?_getD, List.getElem?_eq_none q] at h
    exact absurd h List.not_mem_nil
theorem lkF_ok {o i a b : Nat} (ho : o < 17) (h : ((lkF.getD o []).any (fun f => f.1 == i && f.2.1 == a && f.2.2.1 == b)) = true) : Cond.fieldLink (oN o) i (cN a) (cT a b).2.1 (cT a b).2.2.1 ∈ tw := by
  obtain ⟨f, hf, hq⟩ := List.any_eq_true.mp h
  simp only [Bool.and_eq_true, beq_iff_eq] at hq
  obtain ⟨⟨h1, h2⟩, h3⟩ := hq
  have := List.all_eq_true.mp (List.all_eq_true.mp ck_F o (List.mem_range.mpr ho)) f hf
  have := of_decide_eq_true this
  rw [h1, h2, h3] at this
  exact tw_of this rfl
theorem lkC_ok {o i a : Nat} (ho : o < 17) (h : ∃ f ∈ lkC.getD o [], f.1 = i ∧ f.2.1 = a) : Cond.classLink (oN o) i (cN a) ∈ tw := by
  obtain ⟨f, hf, h1, h2⟩ := h
  have := List.all_eq_true.mp (List.all_eq_true.mp ck_C o (List.mem_range.mpr ho)) f hf
  have := of_decide_eq_true this
  rw [h1, h2] at this
  exact tw_of this rfl
theorem lkK_ok {o i : Nat} {x : Int} (ho : o < 17) (h : ((lkK.getD o []).any (fun f => f.1 == i && f.2.1 == x)) = true) : Cond.constant (oN o) i (Int32.ofInt x) ∈ tw := by
  obtain ⟨f, hf, hq⟩ := List.any_eq_true.mp h
  simp only [Bool.and_eq_true, beq_iff_eq] at hq
  obtain ⟨h1, h2⟩ := hq
  have := List.all_eq_true.mp (List.all_eq_true.mp ck_K o (List.mem_range.mpr ho)) f hf
  have := of_decide_eq_true this
  rw [h1, h2] at this
  exact tw_of this rfl
theorem lkK2_ok {o i : Nat} {x : Int} (ho : o < 17) (h : ((lkK2.getD o []).any (fun f => f.1 == i && f.2.1 == x)) = true) : Cond.constantLong (oN o) i (Int64.ofInt x) ∈ tw := by
  obtain ⟨f, hf, hq⟩ := List.any_eq_true.mp h
  simp only [Bool.and_eq_true, beq_iff_eq] at hq
  obtain ⟨h1, h2⟩ := hq
  have := List.all_eq_true.mp (List.all_eq_true.mp ck_K2 o (List.mem_range.mpr ho)) f hf
  have := of_decide_eq_true this
  rw [h1, h2] at this
  exact tw_of this rfl
theorem lkM_ok {o : Nat} {f : Nat × Nat × Nat × Nat} (ho : o < 17) (hf : f ∈ lkM.getD o []) : lw_tbl[f.2.2.2]? = some (if f.2.2.1 = 0 then Cond.methodLink (oN o) f.1 (qy f.2.1) else Cond.methodLinkNest (oN o) f.1 (qy f.2.1) R11) :=
  of_decide_eq_true (List.all_eq_true.mp (List.all_eq_true.mp ck_M o (List.mem_range.mpr ho)) f hf)
/-- what a fetched instruction is: its bytes, and its tables' words -/
theorem fetch_ok {k pc a b : Nat} {ins : Instr} {x : Int} (hk : k < 312) (h : fetch k pc = some (ins, a, b, x)) : ((∃ len, decode (qb k) pc = .ok (ins, len)) ∧ (isSw ins = false → decode (qb k) pc = .ok (ins, ln ins a))) ∧ okE k (pc, ins, a, b, x) = true := by
  unfold fetch at h
  rw [Option.map_eq_some_iff] at h
  obtain ⟨e, he, h2⟩ := h
  have hm := List.mem_of_find?_eq_some he
  have hp : e.1 = pc := by have := List.find?_some he; simpa using this
  have e' : e = (pc, ins, a, b, x) := by
    obtain ⟨p0, r⟩ := e
    cases hp; cases h2; rfl
  subst e'
  have hd : okDk k := kAll k (List.mem_range.mpr hk)
  have h1 := List.all_eq_true.mp hd _ hm
  have h3 := List.all_eq_true.mp (List.all_eq_true.mp ck_E k (List.mem_range.mpr hk)) _ hm
  refine ⟨?_, h3⟩
  unfold okD at h1
  split at h1
  · next i l hdec =>
    simp only [Bool.and_eq_true, Bool.or_eq_true, decide_eq_true_eq] at h1
    obtain ⟨h4, h5⟩ := h1
    subst h4
    refine ⟨⟨l, hdec⟩, fun hs => ?_⟩
    rcases h5 with h5 | h5
    · rw [← h5]; exact hdec
    · rw [hs] at h5; cases h5
  · cases h1
