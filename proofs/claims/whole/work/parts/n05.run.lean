/-! the script stays: of the interpreter; the whole run -/
def KP1 (h h' : HS) : Prop := (1 < h.1 ∧ hT h 1 = 40) → (1 < h'.1 ∧ hT h' 1 = 40) ∧ hN h' 1 = hN h 1 ∧ hI h' 1 = hI h 1
theorem KP1.rf (h : HS) : KP1 h h := fun c => ⟨c, rfl, rfl⟩
theorem KP1.tr {a b c : HS} (x : KP1 a b) (y : KP1 b c) : KP1 a c := fun z => by
  obtain ⟨x1, x2, x3⟩ := x z
  obtain ⟨y1, y2, y3⟩ := y x1
  exact ⟨y1, y2.trans x2, y3.trans x3⟩
theorem sti_keep {ins : Instr} {a b pc : Nat} {x : Int} {ls : Lo} {st : List Value} {h : HS} {f' : Cfg} (ha : ∀ i, ins = .putfield i → ¬ a = 40) (hs : sti ins a b x pc ls st h = some (.inl f')) : KP1 h f'.2.2.2 := by
  have nxm : ∀ {pc : Nat} {ls : Lo} {st : List Value} {h' : HS}, KP1 h h' → nx pc ls st h' = some (.inl f') → KP1 h f'.2.2.2 := by
    intro pc ls st h' e1 e
    cases e
    exact e1
  have nxs : ∀ {pc : Nat} {ls : Lo} {st : List Value}, nx pc ls st h = some (.inl f') → KP1 h f'.2.2.2 := fun e => nxm (KP1.rf h) e
  have nxn : ∀ {pc t n : Nat} {g : Nat → Int32} {ls : Lo} {st : List Value}, nx pc ls st (hnew h t n g) = some (.inl f') → KP1 h f'.2.2.2 := fun {pc t n g ls st} e => nxm (fun c => by
    have ne : ¬ 1 = h.1 := by omega
    exact ⟨⟨by show 1 < h.1 + 1; omega, (hT_Wn ne).trans c.2⟩, hN_Wn ne, hI_Wn ne⟩) e
  have nxi : ∀ {pc o j : Nat} {v : Int32} {ls : Lo} {st : List Value}, ¬ hT h o = 40 → nx pc ls st (hsI h o j v) = some (.inl f') → KP1 h f'.2.2.2 := fun {pc o j v ls st} ne e => nxm (h' := hsI h o j v) (fun c => ⟨c, rfl, hsI_n (fun z => ne (by rw [← z]; exact c.2))⟩) e
  have nxl : ∀ {pc o j : Nat} {v : Int64} {ls : Lo} {st : List Value}, nx pc ls st (hsL h o j v) = some (.inl f') → KP1 h f'.2.2.2 := fun {pc o j v ls st} e => nxm (h' := hsL h o j v) (fun c => ⟨c, rfl, rfl⟩) e
  have nxr : ∀ {pc o j : Nat} {v : Option Nat} {ls : Lo} {st : List Value}, nx pc ls st (hsR h o j v) = some (.inl f') → KP1 h f'.2.2.2 := fun {pc o j v ls st} e => nxm (h' := hsR h o j v) (fun c => ⟨c, rfl, rfl⟩) e
  cases ins
  case tableswitch => simp only [sti, swF] at hs; (repeat' split at hs) <;> first | exact nxs hs | cases hs
  case lookupswitch => simp only [sti, lookF] at hs; (repeat' split at hs) <;> first | exact nxs hs | cases hs
  case new => exact nxn hs
  case invokevirtual => simp only [sti, slenF, schF] at hs; (repeat' split at hs) <;> first | exact nxs hs | cases hs | exact absurd hs (callF_no _ _ _ _ _ _ _)
  case invokestatic => simp only [sti, cpyF, absF, minF, minL] at hs; (repeat' split at hs) <;> first | exact nxn hs | exact nxs hs | cases hs | exact absurd hs (callF_no _ _ _ _ _ _ _)
  case invokespecial => simp only [sti, objF] at hs; (repeat' split at hs) <;> first | exact nxs hs | cases hs | exact absurd hs (callF_no _ _ _ _ _ _ _)
  case putfield i =>
    simp only [sti, putF] at hs
    split at hs
    · split at hs
      · next ht =>
        split at hs
        · exact nxi (by rw [ht]; exact ha i rfl) hs
        · cases hs
      · cases hs
    · (repeat' split at hs) <;> first | exact nxr hs | cases hs
    · (repeat' split at hs) <;> first | exact nxr hs | cases hs
    · cases hs
  case iastore =>
    simp only [sti, astI] at hs
    split at hs
    · split at hs
      · next ht =>
        split at hs
        · cases hs
        · exact nxi (by rw [ht]; decide) hs
      · cases hs
    · cases hs
  case bastore =>
    simp only [sti, astB] at hs
    split at hs
    · split at hs
      · cases hs
      · split at hs
        · next ht => exact nxi (by rw [ht]; decide) hs
        · split at hs
          · next ht => exact nxi (by rw [ht]; decide) hs
          · cases hs
    · cases hs
  case lastore => simp only [sti, astL] at hs; (repeat' split at hs) <;> first | exact nxl hs | cases hs
  case aastore => simp only [sti, astR] at hs; (repeat' split at hs) <;> first | exact nxr hs | cases hs
  case newarray => simp only [sti, newA] at hs; (repeat' split at hs) <;> first | exact nxn hs | cases hs
  case anewarray => simp only [sti, newA] at hs; (repeat' split at hs) <;> first | exact nxn hs | cases hs
  case ireturn => simp only [sti, retI] at hs; (repeat' split at hs) <;> cases hs
  case lreturn => simp only [sti, retL] at hs; (repeat' split at hs) <;> cases hs
  case areturn => simp only [sti, retA] at hs; (repeat' split at hs) <;> cases hs
  case return_ => simp only [sti, retV] at hs; (repeat' split at hs) <;> cases hs
  case ifCond => simp only [sti, brI] at hs; (repeat' split at hs) <;> first | exact nxs hs | cases hs
  case if_icmp => simp only [sti, brII] at hs; (repeat' split at hs) <;> first | exact nxs hs | cases hs
  all_goals (first | exact nxs hs | (simp only [sti, iiOp, iiOpC, llOp, lsOp, iOp, ldI, ldL, ldA, soI, soL, soA, getF, aldI, aldL, aldR, alenF, dupF, popF, dupx1F, dup2F, nullF] at hs; (repeat' split at hs) <;> first | exact nxs hs | cases hs) | (simp [sti] at hs))
set_option maxRecDepth 100000 in
theorem ck_put : (List.range 312).all (fun k => (qcode k).all (fun q => match q with
  | (_, .putfield _, a, _, _) => !(a == 40)
  | _ => true)) = true := by decide +kernel
theorem stp_keep {k : Nat} (hk : k < 312) {c c' : Cfg} (hs : stp k c = some (.inl c')) : KP1 c.2.2.2 c'.2.2.2 := by
  unfold stp at hs
  split at hs
  · next ins a b x hf =>
    refine sti_keep (fun i e => ?_) hs
    have := List.all_eq_true.mp (List.all_eq_true.mp ck_put k (List.mem_range.mpr hk)) _ (fetch_mem hf)
    rw [e] at this
    intro z
    rw [z] at this
    exact absurd (show (!((40 : Nat) == 40)) = true from this) (by decide)
  · cases hs
theorem stp_calls {k : Nat} {c : Cfg} {k' : Nat} {as : List Value} {c' : Cfg} (hs : stp k c = some (.inr (.inr (k', as, c')))) : c'.2.2.2 = c.2.2.2 := by
  unfold stp at hs
  split at hs
  · rcases sti_call hs with ⟨i, -, -, w⟩ | ⟨i, -, -, w⟩ | ⟨i, -, -, w⟩ <;> (obtain ⟨-, rest, e, -⟩ := callF_spec w; rw [e])
  · cases hs
theorem qc_out {k : Nat} (h : 312 ≤ k) : qcode k = [] := by
  have hl : qL.length = 312 := by decide +kernel
  unfold qcode
  rw [List.getD_eq_getElem?_getD, List.getElem?_eq_none (by omega)]
  rfl
theorem fetch_lt {k pc : Nat} {r : Instr × Nat × Nat × Int} (h : fetch k pc = some r) : k < 312 := by
  rcases Nat.lt_or_ge k 312 with z | z
  · exact z
  · exfalso
    obtain ⟨ins, a, b, x⟩ := r
    have hm := fetch_mem h
    have : qcode k = [] := qc_out z
    rw [this] at hm
    cases hm
theorem run_keep : ∀ (n d k : Nat) (c : Cfg) (v : Option Value) (h' : HS), run n d k c = some (v, h') → KP1 c.2.2.2 h'
  | 0, _, _, _, _, _, h => by cases h
  | n + 1, d, k, c, v, h', h => by
    unfold run at h
    split at h
    · cases h
    · next c' hs =>
      have hk : k < 312 := by
        have hs' := hs
        unfold stp at hs'
        split at hs'
        · next hf => exact fetch_lt hf
        · cases hs'
      exact (stp_keep hk hs).tr (run_keep n d k c' v h' h)
    · cases h; exact KP1.rf _
    · next k' as c' hs =>
      have hc := stp_calls hs
      cases d with
      | zero => cases h
      | succ d' =>
        simp only at h
        split at h
        · split at h
          · cases h
          · next v1 h1 hr =>
            have a1 := run_keep n d' k' _ _ _ hr
            have a2 := run_keep n (d' + 1) k _ _ _ h
            have a1 : KP1 c'.2.2.2 h1 := a1
            rw [hc] at a1
            exact a1.tr a2
        · cases h
theorem ex_keep {d k : Nat} {c : Cfg} {v : Option Value} {h' : HS} (h : ex d k c = some (v, h')) : KP1 c.2.2.2 h' := by
  obtain ⟨n, hn⟩ := ex_run h
  exact run_keep n d k c v h' hn
theorem sk_of {h h' : HS} (w : WF h) (k : KP1 h h') : SK h h' := (k ⟨by have := w.1; omega, WF.x w 1 (by decide)⟩).2
theorem kpa (F : Nat) : KPA F := by
  exact ⟨fun h w a r hp => sk_of w (ex_keep (p114_ok 0 h w a r hp)),
    fun h w a r hp => sk_of w (ex_keep (p115_ok 0 h w a r hp)),
    fun h w a b c r hp => sk_of w (ex_keep (p116_ok 0 h w a b c r hp)),
    fun h w a b c r hp => sk_of w (ex_keep (p119_ok 0 F h w a b c r hp)),
    fun h w a b c r hp => sk_of w (ex_keep (p121_ok 0 F h w a b c r hp)),
    fun h w a r hp => sk_of w (ex_keep (p122_ok 0 F h w a r hp)),
    fun h w  r hp => sk_of w (ex_keep (p123_ok 0 h w  r hp)),
    fun h w a r hp => sk_of w (ex_keep (p124_ok 0 F h w a r hp)),
    fun h w a r hp => sk_of w (ex_keep (p125_ok 0 h w a r hp)),
    fun h w a r hp => sk_of w (ex_keep (p127_ok 0 h w a r hp)),
    fun h w a b c d r hp => sk_of w (ex_keep (p128_ok 0 h w a b c d r hp)),
    fun h w a r hp => sk_of w (ex_keep (p129_ok 0 h w a r hp)),
    fun h w a r hp => sk_of w (ex_keep (p130_ok 0 h w a r hp)),
    fun h w a b c d e f g r hp => sk_of w (ex_keep (p131_ok 0 h w a b c d e f g r hp)),
    fun h w a r hp => sk_of w (ex_keep (p132_ok 0 h w a r hp)),
    fun h w a r hp => sk_of w (ex_keep (p137_ok 0 F h w a r hp)),
    fun h w a b r hp => sk_of w (ex_keep (p139_ok 0 h w a b r hp)),
    fun h w a b c d r hp => sk_of w (ex_keep (p140_ok 0 h w a b c d r hp)),
    fun h w a b c d e r hp => sk_of w (ex_keep (p142_ok 0 F h w a b c d e r hp)),
    fun h w a r hp => sk_of w (ex_keep (p143_ok 0 h w a r hp)),
    fun h w a r hp => sk_of w (ex_keep (p144_ok 0 F h w a r hp)),
    fun h w a b c d r hp => sk_of w (ex_keep (p146_ok 0 h w a b c d r hp)),
    fun h w a b r hp => sk_of w (ex_keep (p147_ok 0 h w a b r hp)),
    fun h w a b c r hp => sk_of w (ex_keep (p148_ok 0 F h w a b c r hp)),
    fun h w a b r hp => sk_of w (ex_keep (p150_ok 0 h w a b r hp)),
    fun h w a r hp => sk_of w (ex_keep (p151_ok 0 F h w a r hp)),
    fun h w  r hp => sk_of w (ex_keep (p152_ok 0 F h w  r hp)),
    fun h w a b r hp => sk_of w (ex_keep (p155_ok 0 h w a b r hp)),
    fun h w a b r hp => sk_of w (ex_keep (p156_ok 0 F h w a b r hp)),
    fun h w a b r hp => sk_of w (ex_keep (p157_ok 0 F h w a b r hp)),
    fun h w a b r hp => sk_of w (ex_keep (p158_ok 0 h w a b r hp)),
    fun h w a r hp => sk_of w (ex_keep (p159_ok 0 F h w a r hp)),
    fun h w  r hp => sk_of w (ex_keep (p160_ok 0 F h w  r hp)),
    fun h w a b r hp => sk_of w (ex_keep (p162_ok 0 h w a b r hp)),
    fun h w a b r hp => sk_of w (ex_keep (p163_ok 0 F h w a b r hp))⟩
/-- the run, whole -/
theorem whole_run (L : Nat) (xs : Nat → Int32) (hL : L ≤ 4096) : ∃ h' : HS, ex 1300 306 (ent 306 [.ref 1] (hs0 L xs)) = some (some (.int 1), h') ∧ h'.1 - 32 ≤ 600000 ∧ h'.2.1 ≤ 7302250 := by
  obtain ⟨⟨i1, i2⟩, -, ⟨-, i6⟩, -⟩ := hbZ (L := L) (xs := xs)
  rw [ev_ck.2.2.1] at i1
  rw [ev_ck.2.2.2.1] at i2
  obtain ⟨g, e, g1, g2⟩ := lpA (F := 50000) (kpa 50000) (Nat.le_refl _) hL 513 50000 0 (hb L xs NEV) ⟨s0, AL0⟩ i6 (Nat.zero_le _) (by omega) (by decide)
  have e2 := p306_L18_ok 1234 50000 50000 (hb L xs NEV) hb_w (nI 0) (1, g) e
  exact ⟨g, ct_law (L := L) (xs := xs) 1234 e2, by omega, by omega⟩
