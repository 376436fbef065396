/-! a run knows no less where more of the locals is known -/
def LE (ls ls' : Lo) : Prop := ls.length = ls'.length ∧ ∀ (i : Nat) (v : Value), ls[i]? = some (some v) → ls'[i]? = some (some v)
theorem LE.rf (ls : Lo) : LE ls ls := ⟨rfl, fun _ _ h => h⟩
theorem kill_ne {ls : Lo} {i j : Nat} {v : Value} (h : ls[j]? = some (some v)) (hn : j + 1 = i → v.category = 1) : (kill ls i)[j]? = some (some v) := by
  unfold kill
  split
  · exact h
  · next j0 =>
    split
    · next x hx =>
      rw [List.getElem?_set_ne (fun e => ?_)]
      · exact h
      · subst e
        rw [hx] at h
        cases h
        exact absurd (hn rfl) (by simp [Value.category])
    · next x hx =>
      rw [List.getElem?_set_ne (fun e => ?_)]
      · exact h
      · subst e
        rw [hx] at h
        cases h
        exact absurd (hn rfl) (by simp [Value.category])
    · exact h
theorem kill_le {ls ls' : Lo} (i : Nat) (h : LE ls ls') : LE (kill ls i) (kill ls' i) := by
  refine ⟨by rw [kill_len, kill_len]; exact h.1, fun j v hv => ?_⟩
  obtain ⟨h1, h2⟩ := kill_get hv
  exact kill_ne (h.2 j v h1) h2
theorem set_le {ls ls' : Lo} (i : Nat) (x : Option Value) (h : LE ls ls') : LE (ls.set i x) (ls'.set i x) := by
  refine ⟨by rw [List.length_set, List.length_set]; exact h.1, fun j v hv => ?_⟩
  rw [List.getElem?_set] at hv ⊢
  split at hv
  · next e =>
    rw [if_pos e]
    rw [h.1] at hv
    exact hv
  · next e => rw [if_neg e]; exact h.2 j v hv
theorem stl1_le {ls ls' : Lo} (i : Nat) (v : Value) (h : LE ls ls') : LE (stl1 ls i v) (stl1 ls' i v) := set_le _ _ (kill_le _ h)
theorem stl2_le {ls ls' : Lo} (i : Nat) (v : Value) (h : LE ls ls') : LE (stl2 ls i v) (stl2 ls' i v) := set_le _ _ (set_le _ _ (kill_le _ h))
/-- the same, but for what is known of the locals -/
def OLE : Out → Out → Prop
  | .inl c, .inl c' => c'.1 = c.1 ∧ LE c.2.1 c'.2.1 ∧ c'.2.2 = c.2.2
  | .inr (.inl v), .inr (.inl v') => v' = v
  | .inr (.inr (k, as, c)), .inr (.inr (k', as', c')) => k' = k ∧ as' = as ∧ c'.1 = c.1 ∧ LE c.2.1 c'.2.1 ∧ c'.2.2 = c.2.2
  | _, _ => False
def PLE (x y : Option Out) : Prop := ∀ o, x = some o → ∃ o', y = some o' ∧ OLE o o'
theorem PLE.none {y : Option Out} : PLE none y := fun _ h => by cases h
theorem PLE.nx {pc : Nat} {ls ls' : Lo} {st : List Value} {h : HS} (hl : LE ls ls') : PLE (nx pc ls st h) (nx pc ls' st h) := fun o e => by
  cases e
  exact ⟨_, rfl, rfl, hl, rfl⟩
theorem PLE.ret {v : Option Value} : PLE (some (.inr (.inl v))) (some (.inr (.inl v))) := fun o e => by
  cases e
  exact ⟨_, rfl, rfl⟩
theorem PLE.ite {c : Prop} [Decidable c] {a b a' b' : Option Out} (h1 : PLE a a') (h2 : PLE b b') : PLE (if c then a else b) (if c then a' else b') := by
  by_cases hc : c
  · rw [if_pos hc, if_pos hc]; exact h1
  · rw [if_neg hc, if_neg hc]; exact h2
theorem PLE.call {r : Bool} {k n pc : Nat} {ls ls' : Lo} {st : List Value} {h : HS} (hl : LE ls ls') : PLE (callF r k n pc ls st h) (callF r k n pc ls' st h) := by
  unfold callF
  refine PLE.ite ?_ PLE.none
  split
  · exact PLE.ite (fun o e => by cases e; exact ⟨_, rfl, rfl, rfl, rfl, hl, rfl⟩) PLE.none
  · exact PLE.ite (fun o e => by cases e; exact ⟨_, rfl, rfl, rfl, rfl, hl, rfl⟩) PLE.none
  · exact PLE.none
theorem sti_le {ins : Instr} {a b pc : Nat} {x : Int} {ls ls' : Lo} {st : List Value} {h : HS} (hl : LE ls ls') : PLE (sti ins a b x pc ls st h) (sti ins a b x pc ls' st h) := by
  have ldi : ∀ (i : Nat) (f : Int32 → Option Out) (f' : Int32 → Option Out), (∀ v, PLE (f v) (f' v)) → PLE (match ls[i]? with | some (some (.int v)) => f v | _ => none) (match ls'[i]? with | some (some (.int v)) => f' v | _ => none) := by
    intro i f f' hf
    split
    · next v hv => rw [hl.2 i _ hv]; exact hf v
    · exact PLE.none
  cases ins
  case iload i => exact ldi i _ _ (fun v => PLE.nx hl)
  case iload_n i => exact ldi i _ _ (fun v => PLE.nx hl)
  case lload i =>
    simp only [sti, ldL]
    split
    · next v hv => rw [hl.2 i _ hv]; exact PLE.nx hl
    · exact PLE.none
  case lload_n i =>
    simp only [sti, ldL]
    split
    · next v hv => rw [hl.2 _ _ hv]; exact PLE.nx hl
    · exact PLE.none
  case aload i =>
    simp only [sti, ldA]
    split
    · next v hv => rw [hl.2 _ _ hv]; exact PLE.nx hl
    · next hv => rw [hl.2 _ _ hv]; exact PLE.nx hl
    · exact PLE.none
  case aload_n i =>
    simp only [sti, ldA]
    split
    · next v hv => rw [hl.2 _ _ hv]; exact PLE.nx hl
    · next hv => rw [hl.2 _ _ hv]; exact PLE.nx hl
    · exact PLE.none
  case iinc i n =>
    simp only [sti]
    refine PLE.ite PLE.none ?_
    exact ldi i _ _ (fun v => PLE.nx (stl1_le _ _ hl))
  case istore i => simp only [sti, soI, hl.1]; split <;> first | exact PLE.ite (PLE.nx (stl1_le _ _ hl)) PLE.none | exact PLE.none
  case istore_n i => simp only [sti, soI, hl.1]; split <;> first | exact PLE.ite (PLE.nx (stl1_le _ _ hl)) PLE.none | exact PLE.none
  case lstore i => simp only [sti, soL, hl.1]; split <;> first | exact PLE.ite (PLE.nx (stl2_le _ _ hl)) PLE.none | exact PLE.none
  case lstore_n i => simp only [sti, soL, hl.1]; split <;> first | exact PLE.ite (PLE.nx (stl2_le _ _ hl)) PLE.none | exact PLE.none
  case astore i => simp only [sti, soA, hl.1]; split <;> first | exact PLE.ite (PLE.nx (stl1_le _ _ hl)) PLE.none | exact PLE.none
  case astore_n i => simp only [sti, soA, hl.1]; split <;> first | exact PLE.ite (PLE.nx (stl1_le _ _ hl)) PLE.none | exact PLE.none
  case invokevirtual => simp only [sti, slenF, schF]; repeat' first | exact PLE.call hl | exact PLE.nx hl | exact PLE.none | apply PLE.ite | split
  case invokestatic => simp only [sti, cpyF, absF, minF, minL]; repeat' first | exact PLE.call hl | exact PLE.nx hl | exact PLE.none | apply PLE.ite | split
  case invokespecial => simp only [sti, objF]; repeat' first | exact PLE.call hl | exact PLE.nx hl | exact PLE.none | apply PLE.ite | split
  case ireturn => simp only [sti, retI]; repeat' first | exact PLE.ret | exact PLE.none | apply PLE.ite | split
  case lreturn => simp only [sti, retL]; repeat' first | exact PLE.ret | exact PLE.none | apply PLE.ite | split
  case areturn => simp only [sti, retA]; repeat' first | exact PLE.ret | exact PLE.none | apply PLE.ite | split
  case return_ => simp only [sti, retV]; repeat' first | exact PLE.ret | exact PLE.none | apply PLE.ite | split
  all_goals (first | exact PLE.none | exact PLE.nx hl | (simp only [sti, iiOp, iiOpC, llOp, lsOp, iOp, getF, putF, aldI, aldL, aldR, astI, astB, astL, astR, alenF, newA, dupF, popF, dupx1F, dup2F, nullF, brI, brII, swF, lookF]; repeat' first | exact PLE.nx hl | exact PLE.none | apply PLE.ite | split))
theorem run_le : ∀ (n d k pc : Nat) (ls ls' : Lo) (sh : List Value × HS) (r : Option Value × HS), LE ls ls' → run n d k (pc, ls, sh) = some r → run n d k (pc, ls', sh) = some r
  | 0, _, _, _, _, _, _, _, _, h => by cases h
  | n + 1, d, k, pc, ls, ls', (st, hh), r, hl, h => by
    have hP : PLE (stp k (pc, ls, st, hh)) (stp k (pc, ls', st, hh)) := by
      unfold stp
      simp only
      split
      · exact sti_le hl
      · exact PLE.none
    unfold run at h
    split at h
    · cases h
    · next c' hs =>
      obtain ⟨o', ho, hq⟩ := hP _ hs
      match o', hq with
      | .inl (pc2, ls2, sh2), hq =>
        obtain ⟨c1, l1, sh1⟩ := c'
        obtain ⟨e1, e2, e3⟩ := hq
        cases e1; cases e3
        unfold run
        rw [ho]
        exact run_le n d k _ _ _ _ r e2 h
    · next v hs =>
      obtain ⟨o', ho, hq⟩ := hP _ hs
      match o', hq with
      | .inr (.inl v'), hq =>
        cases hq
        unfold run
        rw [ho]
        exact h
    · next k' as c' hs =>
      obtain ⟨o', ho, hq⟩ := hP _ hs
      match o', hq with
      | .inr (.inr (k2, as2, (pc2, ls2, sh2))), hq =>
        obtain ⟨c1, l1, sh1⟩ := c'
        obtain ⟨e1, e2, e3, e4, e5⟩ := hq
        cases e1; cases e2; cases e3; cases e5
        unfold run
        rw [ho]
        simp only at h ⊢
        cases d with
        | zero => cases h
        | succ d' =>
          simp only at h ⊢
          split at h
          · next hle =>
            rw [if_pos hle]
            split at h
            · cases h
            · next v1 h1 hr =>
              exact run_le n (d' + 1) k _ _ _ _ r e4 h
          · cases h
theorem ex_weak {d k pc : Nat} {ls ls' : Lo} {st : List Value} {h : HS} {r : Option Value × HS} (hl : LE ls ls') (hk : ex d k (pc, ls, st, h) = some r) : ex d k (pc, ls', st, h) = some r := by
  obtain ⟨n, hn⟩ := ex_run hk
  exact ex_of (run_le n d k pc ls ls' (st, h) r hl hn)
/-- of written lists -/
def le2 : Lo → Lo → Prop
  | [], [] => True
  | a :: l, b :: m => (a = none ∨ a = b) ∧ le2 l m
  | _, _ => False
theorem le2_ok : ∀ {l m : Lo}, le2 l m → LE l m
  | [], [], _ => LE.rf []
  | a :: l, b :: m, h => by
    obtain ⟨h1, h2⟩ := h
    obtain ⟨e1, e2⟩ := le2_ok h2
    refine ⟨by simp [e1], fun i v hv => ?_⟩
    cases i with
    | zero =>
      rw [List.getElem?_cons_zero] at hv ⊢
      cases hv
      rcases h1 with z | z
      · cases z
      · rw [← z]
    | succ i =>
      rw [List.getElem?_cons_succ] at hv ⊢
      exact e2 i v hv
  | [], _ :: _, h => h.elim
  | _ :: _, [], h => h.elim
theorem bind_some {α β : Type} {x : Option α} {f : α → Option β} {r : β} (h : x.bind f = some r) : ∃ y, x = some y ∧ f y = some r := by
  cases x with
  | none => cases h
  | some y => exact ⟨y, rfl, h⟩
