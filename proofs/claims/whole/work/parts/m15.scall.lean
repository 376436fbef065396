/-! calls, returns, runs -/
theorem callF_spec {r : Bool} {k n pc : Nat} {ls : Lo} {st : List Value} {h : HS} {k' : Nat} {as : List Value} {c' : Cfg} (hs : callF r k n pc ls st h = some (.inr (.inr (k', as, c')))) :
    k' = k ∧ ∃ rest, c' = (pc + 3, ls, rest, h) ∧ stOk rest = true ∧ (if r then ∃ o as', as = .ref o :: as' ∧ st = as'.reverse ++ .ref o :: rest ∧ as'.length = n ∧ hT h o = qo k else st = as.reverse ++ rest ∧ as.length = n) := by
  unfold callF at hs
  split at hs
  · next hn =>
    have e1 : st = (st.take n).reverse.reverse ++ st.drop n := by rw [List.reverse_reverse, List.take_append_drop]
    have e2 : (st.take n).reverse.length = n := by rw [List.length_reverse, List.length_take]; omega
    split at hs
    · next z =>
      split at hs
      · next h4 =>
        cases hs
        exact ⟨rfl, _, rfl, h4, e1, e2⟩
      · cases hs
    · next o r0 z =>
      split at hs
      · next h4 =>
        cases hs
        refine ⟨rfl, r0, rfl, h4.1, ?_⟩
        rw [if_pos rfl]
        exact ⟨o, _, rfl, by rw [z] at e1; exact e1, e2, h4.2⟩
      · cases hs
    · cases hs
  · cases hs
theorem sti_mono {ins : Instr} {a b pc : Nat} {x : Int} {ls : Lo} {st : List Value} {h : HS} {f' : Cfg} (hs : sti ins a b x pc ls st h = some (.inl f')) : h.1 ≤ f'.2.2.2.1 ∧ h.2.1 ≤ f'.2.2.2.2.1 := by
  have nxm : ∀ {pc : Nat} {ls : Lo} {st : List Value} {h' : HS}, nx pc ls st h' = some (.inl f') → h.1 ≤ h'.1 → h.2.1 ≤ h'.2.1 → h.1 ≤ f'.2.2.2.1 ∧ h.2.1 ≤ f'.2.2.2.2.1 := by
    intro pc ls st h' e h1 h2
    cases e
    exact ⟨h1, h2⟩
  have nxs : ∀ {pc : Nat} {ls : Lo} {st : List Value}, nx pc ls st h = some (.inl f') → h.1 ≤ f'.2.2.2.1 ∧ h.2.1 ≤ f'.2.2.2.2.1 := fun e => nxm e (Nat.le_refl _) (Nat.le_refl _)
  have nxn : ∀ {pc t n : Nat} {g : Nat → Int32} {ls : Lo} {st : List Value}, nx pc ls st (hnew h t n g) = some (.inl f') → h.1 ≤ f'.2.2.2.1 ∧ h.2.1 ≤ f'.2.2.2.2.1 := fun e => nxm e (Nat.le_succ _) (Nat.le_add_right _ _)
  have nxi : ∀ {pc o j : Nat} {v : Int32} {ls : Lo} {st : List Value}, nx pc ls st (hsI h o j v) = some (.inl f') → h.1 ≤ f'.2.2.2.1 ∧ h.2.1 ≤ f'.2.2.2.2.1 := fun e => nxm e (Nat.le_refl _) (Nat.le_refl _)
  have nxl : ∀ {pc o j : Nat} {v : Int64} {ls : Lo} {st : List Value}, nx pc ls st (hsL h o j v) = some (.inl f') → h.1 ≤ f'.2.2.2.1 ∧ h.2.1 ≤ f'.2.2.2.2.1 := fun e => nxm e (Nat.le_refl _) (Nat.le_refl _)
  have nxr : ∀ {pc o j : Nat} {v : Option Nat} {ls : Lo} {st : List Value}, nx pc ls st (hsR h o j v) = some (.inl f') → h.1 ≤ f'.2.2.2.1 ∧ h.2.1 ≤ f'.2.2.2.2.1 := fun e => nxm e (Nat.le_refl _) (Nat.le_refl _)
  cases ins
  case tableswitch => simp only [sti, swF] at hs; (repeat' split at hs) <;> first | exact nxs hs | cases hs
  case lookupswitch => simp only [sti, lookF] at hs; (repeat' split at hs) <;> first | exact nxs hs | cases hs
  case new => exact nxn hs
  case invokevirtual => simp only [sti, slenF, schF] at hs; (repeat' split at hs) <;> first | exact nxs hs | cases hs | exact absurd hs (callF_no _ _ _ _ _ _ _)
  case invokestatic => simp only [sti, cpyF, absF, minF, minL] at hs; (repeat' split at hs) <;> first | exact nxn hs | exact nxs hs | cases hs | exact absurd hs (callF_no _ _ _ _ _ _ _)
  case invokespecial => simp only [sti, objF] at hs; (repeat' split at hs) <;> first | exact nxs hs | cases hs | exact absurd hs (callF_no _ _ _ _ _ _ _)
  case putfield => simp only [sti, putF] at hs; (repeat' split at hs) <;> first | exact nxi hs | exact nxr hs | cases hs
  case iastore => simp only [sti, astI] at hs; (repeat' split at hs) <;> first | exact nxi hs | cases hs
  case bastore => simp only [sti, astB] at hs; (repeat' split at hs) <;> first | exact nxi hs | cases hs
  case lastore => simp only [sti, astL] at hs; (repeat' split at hs) <;> first | exact nxl hs | cases hs
  case aastore => simp only [sti, astR] at hs; (repeat' split at hs) <;> first | exact nxr hs | cases hs
  case newarray => simp only [sti, newA] at hs; (repeat' split at hs) <;> first | exact nxn hs | cases hs
  case anewarray => simp only [sti, newA] at hs; (repeat' split at hs) <;> first | exact nxn hs | cases hs
  case ireturn => simp only [sti, retI] at hs; (repeat' split at hs) <;> cases hs
  case lreturn => simp only [sti, retL] at hs; (repeat' split at hs) <;> cases hs
  case areturn => simp only [sti, retA] at hs; (repeat' split at hs) <;> cases hs
  case return_ => simp only [sti, retV] at hs; (repeat' split at hs) <;> cases hs
  case ifCond => simp only [sti, brI] at hs; (repeat' split at hs) <;> first | exact nxs hs | cases hs
  case if_icmp => simp only [sti, brII] at hs; (repeat' split at hs) <;> first | exact nxs hs | cases hs
  all_goals (first | exact nxs hs | (simp only [sti, iiOp, iiOpC, llOp, lsOp, iOp, ldI, ldL, ldA, soI, soL, soA, getF, aldI, aldL, aldR, alenF, dupF, popF, dupx1F, dup2F, nullF] at hs; (repeat' split at hs) <;> first | exact nxs hs | cases hs) | (simp [sti] at hs))
/-- a call's step: of what kind, what it gives -/
theorem sti_call {ins : Instr} {a b pc : Nat} {x : Int} {ls : Lo} {st : List Value} {h : HS} {k' : Nat} {as : List Value} {c' : Cfg} (hs : sti ins a b x pc ls st h = some (.inr (.inr (k', as, c')))) :
    (∃ i, ins = .invokevirtual i ∧ x = 0 ∧ callF true a b pc ls st h = some (.inr (.inr (k', as, c')))) ∨ (∃ i, ins = .invokestatic i ∧ (x = 1 ∨ x = 2) ∧ callF false a b pc ls st h = some (.inr (.inr (k', as, c')))) ∨ (∃ i, ins = .invokespecial i ∧ (x = 3 ∨ x = 4) ∧ callF true a b pc ls st h = some (.inr (.inr (k', as, c')))) := by
  have nxm : ∀ {pc : Nat} {ls : Lo} {st : List Value} {h' : HS} {P : Prop}, nx pc ls st h' = some (.inr (.inr (k', as, c'))) → P := fun e => by cases e
  cases ins
  case invokevirtual i =>
    simp only [sti, slenF, schF] at hs
    split at hs
    · next z => exact Or.inl ⟨i, rfl, z, hs⟩
    · (repeat' split at hs) <;> first | exact nxm hs | cases hs
  case invokestatic i =>
    simp only [sti, cpyF, absF, minF, minL] at hs
    split at hs
    · next z => exact Or.inr (Or.inl ⟨i, rfl, z, hs⟩)
    · (repeat' split at hs) <;> first | exact nxm hs | cases hs
  case invokespecial i =>
    simp only [sti, objF] at hs
    split at hs
    · next z => exact Or.inr (Or.inr ⟨i, rfl, z, hs⟩)
    · (repeat' split at hs) <;> first | exact nxm hs | cases hs
  case ireturn => simp only [sti, retI] at hs; (repeat' split at hs) <;> cases hs
  case lreturn => simp only [sti, retL] at hs; (repeat' split at hs) <;> cases hs
  case areturn => simp only [sti, retA] at hs; (repeat' split at hs) <;> cases hs
  case return_ => simp only [sti, retV] at hs; (repeat' split at hs) <;> cases hs
  case tableswitch => simp only [sti, swF] at hs; (repeat' split at hs) <;> first | exact nxm hs | cases hs
  case lookupswitch => simp only [sti, lookF] at hs; (repeat' split at hs) <;> first | exact nxm hs | cases hs
  case putfield => simp only [sti, putF] at hs; (repeat' split at hs) <;> first | exact nxm hs | cases hs
  case iastore => simp only [sti, astI] at hs; (repeat' split at hs) <;> first | exact nxm hs | cases hs
  case bastore => simp only [sti, astB] at hs; (repeat' split at hs) <;> first | exact nxm hs | cases hs
  case lastore => simp only [sti, astL] at hs; (repeat' split at hs) <;> first | exact nxm hs | cases hs
  case aastore => simp only [sti, astR] at hs; (repeat' split at hs) <;> first | exact nxm hs | cases hs
  case newarray => simp only [sti, newA] at hs; (repeat' split at hs) <;> first | exact nxm hs | cases hs
  case anewarray => simp only [sti, newA] at hs; (repeat' split at hs) <;> first | exact nxm hs | cases hs
  case ifCond => simp only [sti, brI] at hs; (repeat' split at hs) <;> first | exact nxm hs | cases hs
  case if_icmp => simp only [sti, brII] at hs; (repeat' split at hs) <;> first | exact nxm hs | cases hs
  all_goals (first | exact nxm hs | (simp only [sti, iiOp, iiOpC, llOp, lsOp, iOp, ldI, ldL, ldA, soI, soL, soA, getF, aldI, aldL, aldR, alenF, dupF, popF, dupx1F, dup2F, nullF] at hs; (repeat' split at hs) <;> first | exact nxm hs | cases hs) | (simp [sti] at hs))
/-- a return's step -/
theorem sti_ret {ins : Instr} {a b pc : Nat} {x : Int} {ls : Lo} {st : List Value} {h : HS} {v : Option Value} (hs : sti ins a b x pc ls st h = some (.inr (.inl v))) :
    (∃ y, ins = .ireturn ∧ st = [.int y] ∧ v = some (.int y) ∧ (x = 0 ∨ y = 0 ∨ y = 1)) ∨ (∃ y, ins = .lreturn ∧ st = [.long y] ∧ v = some (.long y)) ∨ (∃ w, ins = .areturn ∧ st = [w] ∧ v = some w ∧ (w = .null ∨ ∃ o, w = .ref o)) ∨ (ins = .return_ ∧ st = [] ∧ v = none) := by
  have nxm : ∀ {pc : Nat} {ls : Lo} {st : List Value} {h' : HS} {P : Prop}, nx pc ls st h' = some (.inr (.inl v)) → P := fun e => by cases e
  have cno : ∀ {r : Bool} {k n pc : Nat} {ls : Lo} {st : List Value} {h' : HS} {P : Prop}, callF r k n pc ls st h' = some (.inr (.inl v)) → P := fun e => by
    unfold callF at e
    (repeat' split at e) <;> cases e
  cases ins
  case ireturn =>
    simp only [sti, retI] at hs
    split at hs
    · split at hs
      · next z => cases hs; exact Or.inl ⟨_, rfl, rfl, rfl, z⟩
      · cases hs
    · cases hs
  case lreturn =>
    simp only [sti, retL] at hs
    split at hs
    · cases hs; exact Or.inr (Or.inl ⟨_, rfl, rfl, rfl⟩)
    · cases hs
  case areturn =>
    simp only [sti, retA] at hs
    split at hs
    · cases hs; exact Or.inr (Or.inr (Or.inl ⟨_, rfl, rfl, rfl, Or.inr ⟨_, rfl⟩⟩))
    · cases hs; exact Or.inr (Or.inr (Or.inl ⟨_, rfl, rfl, rfl, Or.inl rfl⟩))
    · cases hs
  case return_ =>
    simp only [sti, retV] at hs
    split at hs
    · cases hs; exact Or.inr (Or.inr (Or.inr ⟨rfl, rfl, rfl⟩))
    · cases hs
  case invokevirtual => simp only [sti, slenF, schF] at hs; (repeat' split at hs) <;> first | exact nxm hs | exact cno hs | cases hs
  case invokestatic => simp only [sti, cpyF, absF, minF, minL] at hs; (repeat' split at hs) <;> first | exact nxm hs | exact cno hs | cases hs
  case invokespecial => simp only [sti, objF] at hs; (repeat' split at hs) <;> first | exact nxm hs | exact cno hs | cases hs
  case tableswitch => simp only [sti, swF] at hs; (repeat' split at hs) <;> first | exact nxm hs | cases hs
  case lookupswitch => simp only [sti, lookF] at hs; (repeat' split at hs) <;> first | exact nxm hs | cases hs
  case putfield => simp only [sti, putF] at hs; (repeat' split at hs) <;> first | exact nxm hs | cases hs
  case iastore => simp only [sti, astI] at hs; (repeat' split at hs) <;> first | exact nxm hs | cases hs
  case bastore => simp only [sti, astB] at hs; (repeat' split at hs) <;> first | exact nxm hs | cases hs
  case lastore => simp only [sti, astL] at hs; (repeat' split at hs) <;> first | exact nxm hs | cases hs
  case aastore => simp only [sti, astR] at hs; (repeat' split at hs) <;> first | exact nxm hs | cases hs
  case newarray => simp only [sti, newA] at hs; (repeat' split at hs) <;> first | exact nxm hs | cases hs
  case anewarray => simp only [sti, newA] at hs; (repeat' split at hs) <;> first | exact nxm hs | cases hs
  case ifCond => simp only [sti, brI] at hs; (repeat' split at hs) <;> first | exact nxm hs | cases hs
  case if_icmp => simp only [sti, brII] at hs; (repeat' split at hs) <;> first | exact nxm hs | cases hs
  all_goals (first | exact nxm hs | (simp only [sti, iiOp, iiOpC, llOp, lsOp, iOp, ldI, ldL, ldA, soI, soL, soA, getF, aldI, aldL, aldR, alenF, dupF, popF, dupx1F, dup2F, nullF] at hs; (repeat' split at hs) <;> first | exact nxm hs | cases hs) | (simp [sti] at hs))
theorem run_mono : ∀ (n d k : Nat) (c : Cfg) (v : Option Value) (h' : HS), run n d k c = some (v, h') → c.2.2.2.1 ≤ h'.1 ∧ c.2.2.2.2.1 ≤ h'.2.1
  | 0, _, _, _, _, _, h => by cases h
  | n + 1, d, k, (pc, ls, st, hh), v, h', h => by
    unfold run at h
    split at h
    · cases h
    · next c' hs =>
      have h1 := run_mono n d k c' v h' h
      unfold stp at hs
      split at hs
      · have h2 := sti_mono hs
        exact ⟨Nat.le_trans h2.1 h1.1, Nat.le_trans h2.2 h1.2⟩
      · cases hs
    · cases h; exact ⟨Nat.le_refl _, Nat.le_refl _⟩
    · next k' as c' hs =>
      have hc : c'.2.2.2 = hh := by
        unfold stp at hs
        split at hs
        · rcases sti_call hs with ⟨i, -, -, w⟩ | ⟨i, -, -, w⟩ | ⟨i, -, -, w⟩ <;> (obtain ⟨-, rest, e, -⟩ := callF_spec w; rw [e])
        · cases hs
      cases d with
      | zero => cases h
      | succ d' =>
        simp only at h
        split at h
        · split at h
          · cases h
          · next v1 h1 hr =>
            have a1 := run_mono n d' k' _ _ _ hr
            have a2 := run_mono n (d' + 1) k _ _ _ h
            have e1 : (ent k' as c'.2.2.2).2.2.2 = hh := hc
            rw [e1] at a1
            exact ⟨Nat.le_trans a1.1 a2.1, Nat.le_trans a1.2 a2.2⟩
        · cases h
