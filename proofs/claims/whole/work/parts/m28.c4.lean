theorem f143_0 : fetch 143 0 = some (.iload_n 1, 0, 0, 0) := rfl
theorem f143_1 : fetch 143 1 = some (.iconst 0, 0, 0, 0) := rfl
theorem f143_2 : fetch 143 2 = some (.aload_n 0, 0, 0, 0) := rfl
theorem f143_3 : fetch 143 3 = some (.getfield 45, 11, 9, 2) := rfl
theorem f143_6 : fetch 143 6 = some (.getfield 319, 10, 0, 0) := rfl
theorem f143_9 : fetch 143 9 = some (.invokestatic 91, 166, 3, 1) := rfl
theorem f143_12 : fetch 143 12 = some (.ifCond .ne 5, 17, 0, 0) := rfl
theorem f143_15 : fetch 143 15 = some (.iconst (-1), 0, 0, 0) := rfl
theorem f143_16 : fetch 143 16 = some (.ireturn, 0, 0, 0) := rfl
theorem f143_17 : fetch 143 17 = some (.aload_n 0, 0, 0, 0) := rfl
theorem f143_18 : fetch 143 18 = some (.getfield 45, 11, 9, 2) := rfl
theorem f143_21 : fetch 143 21 = some (.iload_n 1, 0, 0, 0) := rfl
theorem f143_22 : fetch 143 22 = some (.putfield 319, 10, 0, 0) := rfl
theorem f143_25 : fetch 143 25 = some (.iload_n 1, 0, 0, 0) := rfl
theorem f143_26 : fetch 143 26 = some (.ireturn, 0, 0, 0) := rfl
set_option maxRecDepth 100000 in
set_option maxHeartbeats 4000000 in
theorem p143_ok (d : Nat) (h : HS) (w : WF h) (a0 : Int32) (r : Int32 × HS) (hp : p143 h a0 = some r) : ex (d + 1) 143 (ent 143 [.ref (32), .int (a0)] h) = some (some (.int (r.1)), r.2) := by
  rw [show ent 143 [.ref (32), .int (a0)] h = (0, [some (.ref (32)), some (.int (a0))], [], h) from by  rfl]
  refine ex_weak (ls := [some (.ref (32)), some (.int (a0))]) (le2_ok ⟨Or.inr rfl, Or.inr rfl, trivial⟩) ?_
  unfold p143 at hp
  refine e_iload_n f143_0 rfl ?_
  refine e_iconst (v := 0) f143_1 (by decide) ?_
  refine e_aload_n f143_2 rfl ?_
  refine e_getR f143_3 (WF.t w 32 (by decide)) rfl (WF.r (q := 57) w 32 9 (by decide)) ?_
  refine e_getI f143_6 (WF.t w 57 (by decide)) (by decide) ?_
  obtain ⟨r1, hr2, hp⟩ := bind_some hp
  try dsimp only at hp
  refine e_callS (st := []) (as := [.int (a0), .int (0), .int (hI (h) (57) 0)]) f143_9 (by decide) rfl rfl (Nat.le_of_ble_eq_true rfl) (Nat.le_of_ble_eq_true rfl) (p166_ok d (h) w (a0) (0) (hI (h) (57) 0) r1 hr2) ?_
  show ex _ 143 (12, [some (.ref (32)), some (.int (a0))], [.int (r1)], h) = _
  by_cases hc3 : (r1) = (0 : Int32)
  · rw [if_pos hc3] at hp
    refine e_if_ne_f f143_12 hc3 ?_
    refine e_iconst (v := -1) f143_15 (by decide) ?_
    have hp := Option.some.inj hp
    subst hp
    exact e_ireturn f143_16 (Or.inl rfl)
  · rw [if_neg hc3] at hp
    refine e_if_ne_t f143_12 hc3 ?_
    refine e_aload_n f143_17 rfl ?_
    refine e_getR f143_18 (WF.t w 32 (by decide)) rfl (WF.r (q := 57) w 32 9 (by decide)) ?_
    refine e_iload_n f143_21 rfl ?_
    refine e_putI f143_22 (WF.t w 57 (by decide)) rfl ?_
    refine e_iload_n f143_25 rfl ?_
    have hp := Option.some.inj hp
    subst hp
    exact e_ireturn f143_26 (Or.inl rfl)
set_option maxRecDepth 100000 in
set_option maxHeartbeats 4000000 in
theorem p143_w (h : HS) (w : WF h) (a0 : Int32) (r : Int32 × HS) (hp : p143 h a0 = some r) : WF r.2 := by
  unfold p143 at hp
  obtain ⟨r1, hr2, hp⟩ := bind_some hp
  try dsimp only at hp
  by_cases hc3 : (r1) = (0 : Int32)
  · rw [if_pos hc3] at hp
    have hp := Option.some.inj hp
    subst hp
    exact (w)
  · rw [if_neg hc3] at hp
    have hp := Option.some.inj hp
    subst hp
    exact (w)
theorem f144_0 : fetch 144 0 = some (.aload_n 0, 0, 0, 0) := rfl
theorem f144_1 : fetch 144 1 = some (.getfield 322, 11, 3, 0) := rfl
theorem f144_4 : fetch 144 4 = some (.bipush 20, 0, 0, 0) := rfl
theorem f144_6 : fetch 144 6 = some (.if_icmp .ge 17, 23, 0, 0) := rfl
theorem f144_9 : fetch 144 9 = some (.iload_n 1, 0, 0, 0) := rfl
theorem f144_10 : fetch 144 10 = some (.aload_n 0, 0, 0, 0) := rfl
theorem f144_11 : fetch 144 11 = some (.getfield 88, 11, 0, 0) := rfl
theorem f144_14 : fetch 144 14 = some (.sipush 3999, 0, 0, 0) := rfl
theorem f144_17 : fetch 144 17 = some (.invokestatic 91, 166, 3, 1) := rfl
theorem f144_20 : fetch 144 20 = some (.ifCond .ne 5, 25, 0, 0) := rfl
theorem f144_23 : fetch 144 23 = some (.iconst (-1), 0, 0, 0) := rfl
theorem f144_24 : fetch 144 24 = some (.ireturn, 0, 0, 0) := rfl
theorem f144_25 : fetch 144 25 = some (.aload_n 0, 0, 0, 0) := rfl
theorem f144_26 : fetch 144 26 = some (.getfield 45, 11, 9, 2) := rfl
theorem f144_29 : fetch 144 29 = some (.invokevirtual 325, 103, 0, 0) := rfl
theorem f144_32 : fetch 144 32 = some (.aload_n 0, 0, 0, 0) := rfl
theorem f144_33 : fetch 144 33 = some (.getfield 45, 11, 9, 2) := rfl
theorem f144_36 : fetch 144 36 = some (.iconst 0, 0, 0, 0) := rfl
theorem f144_37 : fetch 144 37 = some (.putfield 319, 10, 0, 0) := rfl
theorem f144_40 : fetch 144 40 = some (.aload_n 0, 0, 0, 0) := rfl
theorem f144_41 : fetch 144 41 = some (.getfield 54, 11, 10, 2) := rfl
theorem f144_44 : fetch 144 44 = some (.invokevirtual 328, 30, 0, 0) := rfl
theorem f144_47 : fetch 144 47 = some (.istore_n 2, 0, 0, 0) := rfl
theorem f144_48 : fetch 144 48 = some (.iload_n 2, 0, 0, 0) := rfl
theorem f144_49 : fetch 144 49 = some (.ifCond .eq 8, 57, 0, 0) := rfl
theorem f144_52 : fetch 144 52 = some (.bipush (-2), 0, 0, 0) := rfl
theorem f144_54 : fetch 144 54 = some (.iload_n 2, 0, 0, 0) := rfl
theorem f144_55 : fetch 144 55 = some (.isub, 0, 0, 0) := rfl
theorem f144_56 : fetch 144 56 = some (.ireturn, 0, 0, 0) := rfl
theorem f144_57 : fetch 144 57 = some (.aload_n 0, 0, 0, 0) := rfl
theorem f144_58 : fetch 144 58 = some (.getfield 60, 11, 11, 2) := rfl
theorem f144_61 : fetch 144 61 = some (.aload_n 0, 0, 0, 0) := rfl
theorem f144_62 : fetch 144 62 = some (.getfield 322, 11, 3, 0) := rfl
theorem f144_65 : fetch 144 65 = some (.new 58, 1, 7, 0) := rfl
theorem f144_68 : fetch 144 68 = some (.dup, 0, 0, 0) := rfl
theorem f144_69 : fetch 144 69 = some (.iload_n 1, 0, 0, 0) := rfl
theorem f144_70 : fetch 144 70 = some (.aload_n 0, 0, 0, 0) := rfl
theorem f144_71 : fetch 144 71 = some (.getfield 54, 11, 10, 2) := rfl
theorem f144_74 : fetch 144 74 = some (.invokespecial 331, 24, 2, 3) := rfl
theorem f144_77 : fetch 144 77 = some (.aastore, 0, 0, 0) := rfl
theorem f144_78 : fetch 144 78 = some (.aload_n 0, 0, 0, 0) := rfl
theorem f144_79 : fetch 144 79 = some (.dup, 0, 0, 0) := rfl
theorem f144_80 : fetch 144 80 = some (.getfield 322, 11, 3, 0) := rfl
theorem f144_83 : fetch 144 83 = some (.dup_x1, 0, 0, 0) := rfl
theorem f144_84 : fetch 144 84 = some (.iconst 1, 0, 0, 0) := rfl
theorem f144_85 : fetch 144 85 = some (.iadd, 0, 0, 0) := rfl
theorem f144_86 : fetch 144 86 = some (.putfield 322, 11, 3, 0) := rfl
theorem f144_89 : fetch 144 89 = some (.ireturn, 0, 0, 0) := rfl
set_option maxRecDepth 100000 in
set_option maxHeartbeats 4000000 in
theorem p144_ok (d : Nat) (F : Nat) (h : HS) (w : WF h) (a0 : Int32) (r : Int32 × HS) (hp : p144 F h a0 = some r) : ex (d + 65) 144 (ent 144 [.ref (32), .int (a0)] h) = some (some (.int (r.1)), r.2) := by
  rw [show ent 144 [.ref (32), .int (a0)] h = (0, [some (.ref (32)), some (.int (a0)), none], [], h) from by  rfl]
  refine ex_weak (ls := [some (.ref (32)), some (.int (a0)), none]) (le2_ok ⟨Or.inr rfl, Or.inr rfl, Or.inr rfl, trivial⟩) ?_
  unfold p144 at hp
  refine e_aload_n f144_0 rfl ?_
  refine e_getI f144_1 (WF.t w 32 (by decide)) (by decide) ?_
  refine e_bipush (v := 20) f144_4 (by decide) ?_
  by_cases hc1 : (hI (h) (32) 3) < ((20) : Int32)
  · rw [if_pos hc1] at hp
    refine e_icmp_ge_f f144_6 hc1 ?_
    refine e_iload_n f144_9 rfl ?_
    refine e_aload_n f144_10 rfl ?_
    refine e_getI f144_11 (WF.t w 32 (by decide)) (by decide) ?_
    refine e_sipush (v := 3999) f144_14 (by decide) ?_
    obtain ⟨r2, hr3, hp⟩ := bind_some hp
    try dsimp only at hp
    refine e_callS (st := []) (as := [.int (a0), .int (hI (h) (32) 0), .int (3999)]) f144_17 (by decide) rfl rfl (Nat.le_of_ble_eq_true rfl) (Nat.le_of_ble_eq_true rfl) (p166_ok (d + 64) (h) w (a0) (hI (h) (32) 0) (3999) r2 hr3) ?_
    show ex _ 144 (20, [some (.ref (32)), some (.int (a0)), none], [.int (r2)], h) = _
    by_cases hc4 : (r2) = (0 : Int32)
    · rw [if_pos hc4] at hp
      refine e_if_ne_f f144_20 hc4 ?_
      refine e_iconst (v := -1) f144_23 (by decide) ?_
      have hp := Option.some.inj hp
      subst hp
      exact e_ireturn f144_24 (Or.inl rfl)
    · rw [if_neg hc4] at hp
      refine e_if_ne_t f144_20 hc4 ?_
      refine e_aload_n f144_25 rfl ?_
      refine e_getR f144_26 (WF.t w 32 (by decide)) rfl (WF.r (q := 57) w 32 9 (by decide)) ?_
      obtain ⟨r5, hr6, hp⟩ := bind_some hp
      try dsimp only at hp
      refine e_callV (st := []) (o := 57) (as := []) f144_29 (by decide) rfl rfl (Nat.le_of_ble_eq_true rfl) (WF.t w 57 (by decide)) (Nat.le_of_ble_eq_true rfl) (p103_ok (d + 61) F (h) w r5 hr6) ?_
      show ex _ 144 (32, [some (.ref (32)), some (.int (a0)), none], [], r5) = _
      refine e_aload_n f144_32 rfl ?_
      refine e_getR f144_33 (WF.t (p103_w F (h) w  r5 hr6) 32 (by decide)) rfl (WF.r (q := 57) (p103_w F (h) w  r5 hr6) 32 9 (by decide)) ?_
      refine e_iconst (v := 0) f144_36 (by decide) ?_
      refine e_putI f144_37 (WF.t (p103_w F (h) w  r5 hr6) 57 (by decide)) rfl ?_
      refine e_aload_n f144_40 rfl ?_
      refine e_getR f144_41 (WF.t (p103_w F (h) w  r5 hr6) 32 (by decide)) rfl (WF.r (q := 61) (p103_w F (h) w  r5 hr6) 32 10 (by decide)) ?_
      obtain ⟨r7, hr8, hp⟩ := bind_some hp
      try dsimp only at hp
      refine e_callV (st := []) (o := 61) (as := []) f144_44 (by decide) rfl rfl (Nat.le_of_ble_eq_true rfl) (WF.t (p103_w F (h) w  r5 hr6) 61 (by decide)) (Nat.le_of_ble_eq_true rfl) (p30_ok d F (hsI (r5) (57) 0 (0)) (p103_w F (h) w  r5 hr6) r7 hr8) ?_
      show ex _ 144 (47, [some (.ref (32)), some (.int (a0)), none], [.int (r7.1)], r7.2) = _
      refine e_istore_n (ls2 := [some (.ref (32)), some (.int (a0)), some (.int (r7.1))]) f144_47 (Nat.le_of_ble_eq_true rfl) rfl ?_
      refine e_iload_n f144_48 rfl ?_
      by_cases hc9 : (r7.1) = (0 : Int32)
      · rw [if_pos hc9] at hp
        refine e_if_eq_t f144_49 hc9 ?_
        refine e_aload_n f144_57 rfl ?_
        refine e_getR f144_58 (WF.t (p30_w F (hsI (r5) (57) 0 (0)) (p103_w F (h) w  r5 hr6)  r7 hr8) 32 (by decide)) rfl (WF.r (q := 66) (p30_w F (hsI (r5) (57) 0 (0)) (p103_w F (h) w  r5 hr6)  r7 hr8) 32 11 (by decide)) ?_
        refine e_aload_n f144_61 rfl ?_
        refine e_getI f144_62 (WF.t (p30_w F (hsI (r5) (57) 0 (0)) (p103_w F (h) w  r5 hr6)  r7 hr8) 32 (by decide)) (by decide) ?_
        refine e_new f144_65 ?_
        obtain ⟨h10, e11, hp⟩ := bind_some hp
        try dsimp only at hp
        have e11 := Option.some.inj e11
        have w12 : WF h10 := e11 ▸ (WF.nw (t := 1) (n := 7) (f := fun _ => 0) (p30_w F (hsI (r5) (57) 0 (0)) (p103_w F (h) w  r5 hr6)  r7 hr8))
        rw [e11]
        refine e_dup f144_68 rfl ?_
        refine e_iload_n f144_69 rfl ?_
        refine e_aload_n f144_70 rfl ?_
        refine e_getR f144_71 (WF.t w12 32 (by decide)) rfl (WF.r (q := 61) w12 32 10 (by decide)) ?_
        obtain ⟨r13, hr14, hp⟩ := bind_some hp
        try dsimp only at hp
        refine e_callI (st := [.ref ((r7.2).1), .int (hI (r7.2) (32) 3), .ref (66)]) (o := (r7.2).1) (as := [.int (a0), .ref (61)]) f144_74 (by decide) rfl rfl (Nat.le_of_ble_eq_true rfl) (by rw [← e11]; exact (hT_new _ _ _ _)) (Nat.le_of_ble_eq_true rfl) (p24_ok (d + 64) F (h10) w12 ((r7.2).1) (a0) (by rw [← e11]; exact (hT_new _ _ _ _)) r13 hr14) ?_
        show ex _ 144 (77, [some (.ref (32)), some (.int (a0)), some (.int (r7.1))], [.ref ((r7.2).1), .int (hI (r7.2) (32) 3), .ref (66)], r13) = _
        by_cases hg15 : hT (r13) ((r7.2).1) = 1
        rotate_left
        · rw [if_neg hg15] at hp; cases hp
        rw [if_pos hg15] at hp
        by_cases hg16 : (hI (r7.2) (32) 3) < (0 : Int32) ∨ 20 ≤ (hI (r7.2) (32) 3).toNatClampNeg
        · rw [if_pos hg16] at hp; cases hp
        rw [if_neg hg16] at hp
        refine e_aastore f144_77 (WF.t (p24_w F (h10) w12 ((r7.2).1) (a0) (by rw [← e11]; exact (hT_new _ _ _ _))  r13 hr14) 66 (by decide)) (by decide) hg15 (WF.n (p24_w F (h10) w12 ((r7.2).1) (a0) (by rw [← e11]; exact (hT_new _ _ _ _))  r13 hr14) 66 (by decide)) hg16 ?_
        refine e_aload_n f144_78 rfl ?_
        refine e_dup f144_79 rfl ?_
        refine e_getI f144_80 (WF.t (WF.ra (j := (hI (r7.2) (32) 3).toNatClampNeg) (v := some ((r7.2).1)) (p24_w F (h10) w12 ((r7.2).1) (a0) (by rw [← e11]; exact (hT_new _ _ _ _))  r13 hr14) 66 (by decide)) 32 (by decide)) (by decide) ?_
        refine e_dup_x1 f144_83 rfl rfl ?_
        refine e_iconst (v := 1) f144_84 (by decide) ?_
        refine e_iadd f144_85 ?_
        refine e_putI f144_86 (WF.t (WF.ra (j := (hI (r7.2) (32) 3).toNatClampNeg) (v := some ((r7.2).1)) (p24_w F (h10) w12 ((r7.2).1) (a0) (by rw [← e11]; exact (hT_new _ _ _ _))  r13 hr14) 66 (by decide)) 32 (by decide)) rfl ?_
        obtain ⟨h17, e18, hp⟩ := bind_some hp
        try dsimp only at hp
        have e18 := Option.some.inj e18
        have w19 : WF h17 := e18 ▸ (WF.ra (j := (hI (r7.2) (32) 3).toNatClampNeg) (v := some ((r7.2).1)) (p24_w F (h10) w12 ((r7.2).1) (a0) (by rw [← e11]; exact (hT_new _ _ _ _))  r13 hr14) 66 (by decide))
        rw [e18]
        have hp := Option.some.inj hp
        subst hp
        exact e_ireturn f144_89 (Or.inl rfl)
      · rw [if_neg hc9] at hp
        refine e_if_eq_f f144_49 hc9 ?_
        refine e_bipush (v := -2) f144_52 (by decide) ?_
        refine e_iload_n f144_54 rfl ?_
        refine e_isub f144_55 ?_
        have hp := Option.some.inj hp
        subst hp
        exact e_ireturn f144_56 (Or.inl rfl)
  · rw [if_neg hc1] at hp
    refine e_icmp_ge_t f144_6 hc1 ?_
    refine e_iconst (v := -1) f144_23 (by decide) ?_
    have hp := Option.some.inj hp
    subst hp
    exact e_ireturn f144_24 (Or.inl rfl)
set_option maxRecDepth 100000 in
set_option maxHeartbeats 4000000 in
theorem p144_w (F : Nat) (h : HS) (w : WF h) (a0 : Int32) (r : Int32 × HS) (hp : p144 F h a0 = some r) : WF r.2 := by
  unfold p144 at hp
  by_cases hc1 : (hI (h) (32) 3) < ((20) : Int32)
  · rw [if_pos hc1] at hp
    obtain ⟨r2, hr3, hp⟩ := bind_some hp
    try dsimp only at hp
    by_cases hc4 : (r2) = (0 : Int32)
    · rw [if_pos hc4] at hp
      have hp := Option.some.inj hp
      subst hp
      exact (w)
    · rw [if_neg hc4] at hp
      obtain ⟨r5, hr6, hp⟩ := bind_some hp
      try dsimp only at hp
      obtain ⟨r7, hr8, hp⟩ := bind_some hp
      try dsimp only at hp
      by_cases hc9 : (r7.1) = (0 : Int32)
      · rw [if_pos hc9] at hp
        obtain ⟨h10, e11, hp⟩ := bind_some hp
        try dsimp only at hp
        have e11 := Option.some.inj e11
        have w12 : WF h10 := e11 ▸ (WF.nw (t := 1) (n := 7) (f := fun _ => 0) (p30_w F (hsI (r5) (57) 0 (0)) (p103_w F (h) w  r5 hr6)  r7 hr8))
        obtain ⟨r13, hr14, hp⟩ := bind_some hp
        try dsimp only at hp
        by_cases hg15 : hT (r13) ((r7.2).1) = 1
        rotate_left
        · rw [if_neg hg15] at hp; cases hp
        rw [if_pos hg15] at hp
        by_cases hg16 : (hI (r7.2) (32) 3) < (0 : Int32) ∨ 20 ≤ (hI (r7.2) (32) 3).toNatClampNeg
        · rw [if_pos hg16] at hp; cases hp
        rw [if_neg hg16] at hp
        obtain ⟨h17, e18, hp⟩ := bind_some hp
        try dsimp only at hp
        have e18 := Option.some.inj e18
        have w19 : WF h17 := e18 ▸ (WF.ra (j := (hI (r7.2) (32) 3).toNatClampNeg) (v := some ((r7.2).1)) (p24_w F (h10) w12 ((r7.2).1) (a0) (by rw [← e11]; exact (hT_new _ _ _ _))  r13 hr14) 66 (by decide))
        have hp := Option.some.inj hp
        subst hp
        exact (w19)
      · rw [if_neg hc9] at hp
        have hp := Option.some.inj hp
        subst hp
        exact ((p30_w F (hsI (r5) (57) 0 (0)) (p103_w F (h) w  r5 hr6)  r7 hr8))
  · rw [if_neg hc1] at hp
    have hp := Option.some.inj hp
    subst hp
    exact (w)
theorem f175_0 : fetch 175 0 = some (.iconst (-1), 0, 0, 0) := rfl
theorem f175_1 : fetch 175 1 = some (.istore_n 2, 0, 0, 0) := rfl
theorem f175_2 : fetch 175 2 = some (.iconst 0, 0, 0, 0) := rfl
theorem f175_3 : fetch 175 3 = some (.istore_n 3, 0, 0, 0) := rfl
theorem f175_4 : fetch 175 4 = some (.iload_n 3, 0, 0, 0) := rfl
theorem f175_5 : fetch 175 5 = some (.aload_n 0, 0, 0, 0) := rfl
theorem f175_6 : fetch 175 6 = some (.getfield 322, 11, 3, 0) := rfl
theorem f175_9 : fetch 175 9 = some (.if_icmp .ge 50, 59, 0, 0) := rfl
theorem f175_12 : fetch 175 12 = some (.aload_n 0, 0, 0, 0) := rfl
theorem f175_13 : fetch 175 13 = some (.getfield 60, 11, 11, 2) := rfl
theorem f175_16 : fetch 175 16 = some (.iload_n 3, 0, 0, 0) := rfl
theorem f175_17 : fetch 175 17 = some (.aaload, 0, 0, 0) := rfl
theorem f175_18 : fetch 175 18 = some (.getfield 475, 1, 0, 0) := rfl
theorem f175_21 : fetch 175 21 = some (.iload_n 1, 0, 0, 0) := rfl
theorem f175_22 : fetch 175 22 = some (.if_icmp .gt 31, 53, 0, 0) := rfl
theorem f175_25 : fetch 175 25 = some (.iload_n 2, 0, 0, 0) := rfl
theorem f175_26 : fetch 175 26 = some (.iconst (-1), 0, 0, 0) := rfl
theorem f175_27 : fetch 175 27 = some (.if_icmp .eq 24, 51, 0, 0) := rfl
theorem f175_30 : fetch 175 30 = some (.aload_n 0, 0, 0, 0) := rfl
theorem f175_31 : fetch 175 31 = some (.getfield 60, 11, 11, 2) := rfl
theorem f175_34 : fetch 175 34 = some (.iload_n 3, 0, 0, 0) := rfl
theorem f175_35 : fetch 175 35 = some (.aaload, 0, 0, 0) := rfl
theorem f175_36 : fetch 175 36 = some (.getfield 475, 1, 0, 0) := rfl
theorem f175_39 : fetch 175 39 = some (.aload_n 0, 0, 0, 0) := rfl
theorem f175_40 : fetch 175 40 = some (.getfield 60, 11, 11, 2) := rfl
theorem f175_43 : fetch 175 43 = some (.iload_n 2, 0, 0, 0) := rfl
theorem f175_44 : fetch 175 44 = some (.aaload, 0, 0, 0) := rfl
theorem f175_45 : fetch 175 45 = some (.getfield 475, 1, 0, 0) := rfl
theorem f175_48 : fetch 175 48 = some (.if_icmp .lt 5, 53, 0, 0) := rfl
theorem f175_51 : fetch 175 51 = some (.iload_n 3, 0, 0, 0) := rfl
theorem f175_52 : fetch 175 52 = some (.istore_n 2, 0, 0, 0) := rfl
theorem f175_53 : fetch 175 53 = some (.iinc 3 1, 0, 0, 0) := rfl
theorem f175_56 : fetch 175 56 = some (.goto (-52), 4, 0, 0) := rfl
theorem f175_59 : fetch 175 59 = some (.iload_n 2, 0, 0, 0) := rfl
theorem f175_60 : fetch 175 60 = some (.ireturn, 0, 0, 0) := rfl
set_option maxRecDepth 100000 in
set_option maxHeartbeats 4000000 in
theorem p175_j53_ok (d : Nat) (F : Nat) (a0 : Int32) (K4 : Int32 → Int32 → Option (Int32)) (h : HS) (w : WF h) (hK4 : ∀ (u2 : Int32) (u3 : Int32) (r : Int32), K4 u2 u3 = some r → ex (d + 0) 175 (4, [some (.ref (32)), some (.int (a0)), some (.int (u2)), some (.int (u3))], [], h) = some (some (.int (r)), h)) (v2 : Int32) (v3 : Int32) (r : Int32) (hp : p175_j53 F a0 K4 h v2 v3 = some r) : ex (d + 0) 175 (53, [some (.ref (32)), some (.int (a0)), some (.int (v2)), some (.int (v3))], [], h) = some (some (.int (r)), h) := by
  unfold p175_j53 at hp
  refine e_iinc (ls2 := [some (.ref (32)), some (.int (a0)), some (.int (v2)), some (.int ((v3) + 1))]) f175_53 (by decide) rfl rfl ?_
  refine e_goto f175_56 ?_
  refine ex_weak (ls := [some (.ref (32)), some (.int (a0)), some (.int (v2)), some (.int ((v3) + 1))]) (le2_ok ⟨Or.inr rfl, Or.inr rfl, Or.inr rfl, Or.inr rfl, trivial⟩) ?_
  exact hK4 (v2) ((v3) + 1) _ hp
set_option maxRecDepth 100000 in
set_option maxHeartbeats 4000000 in
theorem p175_j51_ok (d : Nat) (F : Nat) (a0 : Int32) (K4 : Int32 → Int32 → Option (Int32)) (h : HS) (w : WF h) (hK4 : ∀ (u2 : Int32) (u3 : Int32) (r : Int32), K4 u2 u3 = some r → ex (d + 0) 175 (4, [some (.ref (32)), some (.int (a0)), some (.int (u2)), some (.int (u3))], [], h) = some (some (.int (r)), h)) (v3 : Int32) (r : Int32) (hp : p175_j51 F a0 K4 h v3 = some r) : ex (d + 0) 175 (51, [some (.ref (32)), some (.int (a0)), none, some (.int (v3))], [], h) = some (some (.int (r)), h) := by
  unfold p175_j51 at hp
  refine e_iload_n f175_51 rfl ?_
  refine e_istore_n (ls2 := [some (.ref (32)), some (.int (a0)), some (.int (v3)), some (.int (v3))]) f175_52 (Nat.le_of_ble_eq_true rfl) rfl ?_
  refine ex_weak (ls := [some (.ref (32)), some (.int (a0)), some (.int (v3)), some (.int (v3))]) (le2_ok ⟨Or.inr rfl, Or.inr rfl, Or.inr rfl, Or.inr rfl, trivial⟩) ?_
  exact p175_j53_ok d F a0 (K4) (h) (w) (hK4) (v3) (v3) _ hp
set_option maxRecDepth 100000 in
set_option maxHeartbeats 4000000 in
theorem p175_L4_ok (d : Nat) (F : Nat) (a0 : Int32) (h : HS) (w : WF h)  : ∀ (n : Nat) (v2 : Int32) (v3 : Int32) (r : Int32), p175_L4 F a0 n h v2 v3 = some r → ex (d + 0) 175 (4, [some (.ref (32)), some (.int (a0)), some (.int (v2)), some (.int (v3))], [], h) = some (some (.int (r)), h) := by
  intro n
  induction n with
  | zero => intro v2 v3 r hp; cases hp
  | succ n ih =>
    intro v2 v3 r hp
    unfold p175_L4 at hp
    refine e_iload_n f175_4 rfl ?_
    refine e_aload_n f175_5 rfl ?_
    refine e_getI f175_6 (WF.t w 32 (by decide)) (by decide) ?_
    by_cases hc1 : (v3) < ((hI (h) (32) 3) : Int32)
    · rw [if_pos hc1] at hp
      refine e_icmp_ge_f f175_9 hc1 ?_
      refine e_aload_n f175_12 rfl ?_
      refine e_getR f175_13 (WF.t w 32 (by decide)) rfl (WF.r (q := 66) w 32 11 (by decide)) ?_
      refine e_iload_n f175_16 rfl ?_
      by_cases hg2 : (v3) < (0 : Int32) ∨ 20 ≤ (v3).toNatClampNeg
      · rw [if_pos hg2] at hp; cases hp
      rw [if_neg hg2] at hp
      refine e_aaload f175_17 (Or.inr (Or.inl (WF.t w 66 (by decide)))) (WF.n w 66 (by decide)) hg2 ?_
      obtain ⟨o3, ho4, hp⟩ := bind_some hp
      try dsimp only at hp
      rw [ho4]
      by_cases hg5 : hT (h) (o3) = 1
      rotate_left
      · rw [if_neg hg5] at hp; cases hp
      rw [if_pos hg5] at hp
      refine e_getI f175_18 hg5 (by decide) ?_
      refine e_iload_n f175_21 rfl ?_
      by_cases hc6 : (a0) < ((hI (h) (o3) 0) : Int32)
      · rw [if_pos hc6] at hp
        refine e_icmp_gt_t f175_22 hc6 ?_
        refine ex_weak (ls := [some (.ref (32)), some (.int (a0)), some (.int (v2)), some (.int (v3))]) (le2_ok ⟨Or.inr rfl, Or.inr rfl, Or.inr rfl, Or.inr rfl, trivial⟩) ?_
        exact p175_j53_ok d F a0 ((p175_L4 F a0 n h)) (h) (w) (ih) (v2) (v3) _ hp
      · rw [if_neg hc6] at hp
        refine e_icmp_gt_f f175_22 hc6 ?_
        refine e_iload_n f175_25 rfl ?_
        refine e_iconst (v := -1) f175_26 (by decide) ?_
        by_cases hc7 : (v2) = (((-1)) : Int32)
        · rw [if_pos hc7] at hp
          refine e_icmp_eq_t f175_27 hc7 ?_
          refine ex_weak (ls := [some (.ref (32)), some (.int (a0)), none, some (.int (v3))]) (le2_ok ⟨Or.inr rfl, Or.inr rfl, Or.inl rfl, Or.inr rfl, trivial⟩) ?_
          exact p175_j51_ok d F a0 ((p175_L4 F a0 n h)) (h) (w) (ih) (v3) _ hp
        · rw [if_neg hc7] at hp
          refine e_icmp_eq_f f175_27 hc7 ?_
          refine e_aload_n f175_30 rfl ?_
          refine e_getR f175_31 (WF.t w 32 (by decide)) rfl (WF.r (q := 66) w 32 11 (by decide)) ?_
          refine e_iload_n f175_34 rfl ?_
          by_cases hg8 : (v3) < (0 : Int32) ∨ 20 ≤ (v3).toNatClampNeg
          · rw [if_pos hg8] at hp; cases hp
          rw [if_neg hg8] at hp
          refine e_aaload f175_35 (Or.inr (Or.inl (WF.t w 66 (by decide)))) (WF.n w 66 (by decide)) hg8 ?_
          obtain ⟨o9, ho10, hp⟩ := bind_some hp
          try dsimp only at hp
          rw [ho10]
          by_cases hg11 : hT (h) (o9) = 1
          rotate_left
          · rw [if_neg hg11] at hp; cases hp
          rw [if_pos hg11] at hp
          refine e_getI f175_36 hg11 (by decide) ?_
          refine e_aload_n f175_39 rfl ?_
          refine e_getR f175_40 (WF.t w 32 (by decide)) rfl (WF.r (q := 66) w 32 11 (by decide)) ?_
          refine e_iload_n f175_43 rfl ?_
          by_cases hg12 : (v2) < (0 : Int32) ∨ 20 ≤ (v2).toNatClampNeg
          · rw [if_pos hg12] at hp; cases hp
          rw [if_neg hg12] at hp
          refine e_aaload f175_44 (Or.inr (Or.inl (WF.t w 66 (by decide)))) (WF.n w 66 (by decide)) hg12 ?_
          obtain ⟨o13, ho14, hp⟩ := bind_some hp
          try dsimp only at hp
          rw [ho14]
          by_cases hg15 : hT (h) (o13) = 1
          rotate_left
          · rw [if_neg hg15] at hp; cases hp
          rw [if_pos hg15] at hp
          refine e_getI f175_45 hg15 (by decide) ?_
          by_cases hc16 : (hI (h) (o9) 0) < ((hI (h) (o13) 0) : Int32)
          · rw [if_pos hc16] at hp
            refine e_icmp_lt_t f175_48 hc16 ?_
            refine ex_weak (ls := [some (.ref (32)), some (.int (a0)), some (.int (v2)), some (.int (v3))]) (le2_ok ⟨Or.inr rfl, Or.inr rfl, Or.inr rfl, Or.inr rfl, trivial⟩) ?_
            exact p175_j53_ok d F a0 ((p175_L4 F a0 n h)) (h) (w) (ih) (v2) (v3) _ hp
          · rw [if_neg hc16] at hp
            refine e_icmp_lt_f f175_48 hc16 ?_
            refine ex_weak (ls := [some (.ref (32)), some (.int (a0)), none, some (.int (v3))]) (le2_ok ⟨Or.inr rfl, Or.inr rfl, Or.inl rfl, Or.inr rfl, trivial⟩) ?_
            exact p175_j51_ok d F a0 ((p175_L4 F a0 n h)) (h) (w) (ih) (v3) _ hp
    · rw [if_neg hc1] at hp
      refine e_icmp_ge_t f175_9 hc1 ?_
      refine e_iload_n f175_59 rfl ?_
      have hp := Option.some.inj hp
      subst hp
      exact e_ireturn f175_60 (Or.inl rfl)
set_option maxRecDepth 100000 in
set_option maxHeartbeats 4000000 in
theorem p175_ok (d : Nat) (F : Nat) (h : HS) (w : WF h) (a0 : Int32) (r : Int32) (hp : p175 F h a0 = some r) : ex (d + 0) 175 (ent 175 [.ref (32), .int (a0)] h) = some (some (.int (r)), h) := by
  rw [show ent 175 [.ref (32), .int (a0)] h = (0, [some (.ref (32)), some (.int (a0)), none, none], [], h) from by  rfl]
  refine ex_weak (ls := [some (.ref (32)), some (.int (a0)), none, none]) (le2_ok ⟨Or.inr rfl, Or.inr rfl, Or.inr rfl, Or.inr rfl, trivial⟩) ?_
  unfold p175 at hp
  refine e_iconst (v := -1) f175_0 (by decide) ?_
  refine e_istore_n (ls2 := [some (.ref (32)), some (.int (a0)), some (.int ((-1))), none]) f175_1 (Nat.le_of_ble_eq_true rfl) rfl ?_
  refine e_iconst (v := 0) f175_2 (by decide) ?_
  refine e_istore_n (ls2 := [some (.ref (32)), some (.int (a0)), some (.int ((-1))), some (.int (0))]) f175_3 (Nat.le_of_ble_eq_true rfl) rfl ?_
  refine ex_weak (ls := [some (.ref (32)), some (.int (a0)), some (.int ((-1))), some (.int (0))]) (le2_ok ⟨Or.inr rfl, Or.inr rfl, Or.inr rfl, Or.inr rfl, trivial⟩) ?_
  exact p175_L4_ok d F a0 (h) (w) F ((-1)) (0) _ hp
theorem f145_0 : fetch 145 0 = some (.iload_n 1, 0, 0, 0) := rfl
theorem f145_1 : fetch 145 1 = some (.invokestatic 260, 167, 1, 1) := rfl
theorem f145_4 : fetch 145 4 = some (.ifCond .eq 11, 15, 0, 0) := rfl
theorem f145_7 : fetch 145 7 = some (.aload_n 0, 0, 0, 0) := rfl
theorem f145_8 : fetch 145 8 = some (.iload_n 1, 0, 0, 0) := rfl
theorem f145_9 : fetch 145 9 = some (.invokevirtual 334, 175, 1, 0) := rfl
theorem f145_12 : fetch 145 12 = some (.goto 4, 16, 0, 0) := rfl
theorem f145_15 : fetch 145 15 = some (.iconst (-1), 0, 0, 0) := rfl
theorem f145_16 : fetch 145 16 = some (.ireturn, 0, 0, 0) := rfl
set_option maxRecDepth 100000 in
set_option maxHeartbeats 4000000 in
theorem p145_ok (d : Nat) (F : Nat) (h : HS) (w : WF h) (a0 : Int32) (r : Int32) (hp : p145 F h a0 = some r) : ex (d + 2) 145 (ent 145 [.ref (32), .int (a0)] h) = some (some (.int (r)), h) := by
  rw [show ent 145 [.ref (32), .int (a0)] h = (0, [some (.ref (32)), some (.int (a0))], [], h) from by  rfl]
  refine ex_weak (ls := [some (.ref (32)), some (.int (a0))]) (le2_ok ⟨Or.inr rfl, Or.inr rfl, trivial⟩) ?_
  unfold p145 at hp
  refine e_iload_n f145_0 rfl ?_
  obtain ⟨r1, hr2, hp⟩ := bind_some hp
  try dsimp only at hp
  refine e_callS (st := []) (as := [.int (a0)]) f145_1 (by decide) rfl rfl (Nat.le_of_ble_eq_true rfl) (Nat.le_of_ble_eq_true rfl) (p167_ok d (h) w (a0) r1 hr2) ?_
  show ex _ 145 (4, [some (.ref (32)), some (.int (a0))], [.int (r1)], h) = _
  by_cases hc3 : (r1) = (0 : Int32)
  · rw [if_pos hc3] at hp
    refine e_if_eq_t f145_4 hc3 ?_
    refine e_iconst (v := -1) f145_15 (by decide) ?_
    have hp := Option.some.inj hp
    subst hp
    exact e_ireturn f145_16 (Or.inl rfl)
  · rw [if_neg hc3] at hp
    refine e_if_eq_f f145_4 hc3 ?_
    refine e_aload_n f145_7 rfl ?_
    refine e_iload_n f145_8 rfl ?_
    obtain ⟨r4, hr5, hp⟩ := bind_some hp
    try dsimp only at hp
    refine e_callV (st := []) (o := 32) (as := [.int (a0)]) f145_9 (by decide) rfl rfl (Nat.le_of_ble_eq_true rfl) (WF.t w 32 (by decide)) (Nat.le_of_ble_eq_true rfl) (p175_ok (d + 1) F (h) w (a0) r4 hr5) ?_
    show ex _ 145 (12, [some (.ref (32)), some (.int (a0))], [.int (r4)], h) = _
    refine e_goto f145_12 ?_
    have hp := Option.some.inj hp
    subst hp
    exact e_ireturn f145_16 (Or.inl rfl)
theorem f146_0 : fetch 146 0 = some (.aload_n 0, 0, 0, 0) := rfl
theorem f146_1 : fetch 146 1 = some (.iload_n 1, 0, 0, 0) := rfl
theorem f146_2 : fetch 146 2 = some (.invokevirtual 158, 171, 1, 0) := rfl
theorem f146_5 : fetch 146 5 = some (.astore 6, 0, 0, 0) := rfl
theorem f146_7 : fetch 146 7 = some (.aload 6, 0, 0, 0) := rfl
theorem f146_9 : fetch 146 9 = some (.ifnull 55, 64, 0, 0) := rfl
theorem f146_12 : fetch 146 12 = some (.aload 6, 0, 0, 0) := rfl
theorem f146_14 : fetch 146 14 = some (.getfield 184, 9, 7, 0) := rfl
theorem f146_17 : fetch 146 17 = some (.bipush 20, 0, 0, 0) := rfl
theorem f146_19 : fetch 146 19 = some (.if_icmp .ge 45, 64, 0, 0) := rfl
theorem f146_22 : fetch 146 22 = some (.lload_n 2, 0, 0, 0) := rfl
theorem f146_23 : fetch 146 23 = some (.aload_n 0, 0, 0, 0) := rfl
theorem f146_24 : fetch 146 24 = some (.getfield 38, 11, 8, 2) := rfl
theorem f146_27 : fetch 146 27 = some (.invokevirtual 337, 10, 0, 0) := rfl
theorem f146_30 : fetch 146 30 = some (.ldc2_w 341, 0, 0, -1) := rfl
theorem f146_33 : fetch 146 33 = some (.lxor, 0, 0, 0) := rfl
theorem f146_34 : fetch 146 34 = some (.land, 0, 0, 0) := rfl
theorem f146_35 : fetch 146 35 = some (.lconst 0, 0, 0, 0) := rfl
theorem f146_36 : fetch 146 36 = some (.lcmp, 0, 0, 0) := rfl
theorem f146_37 : fetch 146 37 = some (.ifCond .ne 27, 64, 0, 0) := rfl
theorem f146_40 : fetch 146 40 = some (.iload 4, 0, 0, 0) := rfl
theorem f146_42 : fetch 146 42 = some (.iconst 1, 0, 0, 0) := rfl
theorem f146_43 : fetch 146 43 = some (.sipush 200, 0, 0, 0) := rfl
theorem f146_46 : fetch 146 46 = some (.invokestatic 91, 166, 3, 1) := rfl
theorem f146_49 : fetch 146 49 = some (.ifCond .eq 15, 64, 0, 0) := rfl
theorem f146_52 : fetch 146 52 = some (.iload 5, 0, 0, 0) := rfl
theorem f146_54 : fetch 146 54 = some (.iconst 0, 0, 0, 0) := rfl
theorem f146_55 : fetch 146 55 = some (.ldc_w 343, 0, 0, 999999) := rfl
theorem f146_58 : fetch 146 58 = some (.invokestatic 91, 166, 3, 1) := rfl
theorem f146_61 : fetch 146 61 = some (.ifCond .ne 5, 66, 0, 0) := rfl
theorem f146_64 : fetch 146 64 = some (.iconst (-1), 0, 0, 0) := rfl
theorem f146_65 : fetch 146 65 = some (.ireturn, 0, 0, 0) := rfl
theorem f146_66 : fetch 146 66 = some (.aload 6, 0, 0, 0) := rfl
theorem f146_68 : fetch 146 68 = some (.lload_n 2, 0, 0, 0) := rfl
theorem f146_69 : fetch 146 69 = some (.iload 4, 0, 0, 0) := rfl
theorem f146_71 : fetch 146 71 = some (.iload 5, 0, 0, 0) := rfl
theorem f146_73 : fetch 146 73 = some (.invokevirtual 344, 96, 3, 0) := rfl
theorem f146_76 : fetch 146 76 = some (.ireturn, 0, 0, 0) := rfl
set_option maxRecDepth 100000 in
set_option maxHeartbeats 4000000 in
theorem p146_ok (d : Nat) (h : HS) (w : WF h) (a0 : Int32) (a1 : Int64) (a2 : Int32) (a3 : Int32) (r : Int32 × HS) (hp : p146 h a0 a1 a2 a3 = some r) : ex (d + 3) 146 (ent 146 [.ref (32), .int (a0), .long (a1), .int (a2), .int (a3)] h) = some (some (.int (r.1)), r.2) := by
  rw [show ent 146 [.ref (32), .int (a0), .long (a1), .int (a2), .int (a3)] h = (0, [some (.ref (32)), some (.int (a0)), some (.long (a1)), none, some (.int (a2)), some (.int (a3)), none], [], h) from by  rfl]
  refine ex_weak (ls := [some (.ref (32)), some (.int (a0)), some (.long (a1)), none, some (.int (a2)), some (.int (a3)), none]) (le2_ok ⟨Or.inr rfl, Or.inr rfl, Or.inr rfl, Or.inr rfl, Or.inr rfl, Or.inr rfl, Or.inr rfl, trivial⟩) ?_
  unfold p146 at hp
  refine e_aload_n f146_0 rfl ?_
  refine e_iload_n f146_1 rfl ?_
  obtain ⟨r1, hr2, hp⟩ := bind_some hp
  try dsimp only at hp
  refine e_callV (st := []) (o := 32) (as := [.int (a0)]) f146_2 (by decide) rfl rfl (Nat.le_of_ble_eq_true rfl) (WF.t w 32 (by decide)) (Nat.le_of_ble_eq_true rfl) (p171_ok d (h) w (a0) r1 hr2) ?_
  show ex _ 146 (5, [some (.ref (32)), some (.int (a0)), some (.long (a1)), none, some (.int (a2)), some (.int (a3)), none], [va_rf (r1)], h) = _
  refine e_qstore (ls2 := [some (.ref (32)), some (.int (a0)), some (.long (a1)), none, some (.int (a2)), some (.int (a3)), some (va_rf (r1))]) f146_5 (Nat.le_of_ble_eq_true rfl) rfl ?_
  refine e_qload f146_7 rfl ?_
  by_cases hc3 : (r1) = none
  · rw [if_pos hc3] at hp
    rw [hc3]
    refine e_ifnull_t f146_9 ?_
    refine e_iconst (v := -1) f146_64 (by decide) ?_
    have hp := Option.some.inj hp
    subst hp
    exact e_ireturn f146_65 (Or.inl rfl)
  · rw [if_neg hc3] at hp
    obtain ⟨o4, ho5, hp⟩ := bind_some hp
    try dsimp only at hp
    rw [ho5]
    refine e_ifnull_f f146_9 ?_
    refine e_aload f146_12 rfl ?_
    by_cases hg6 : hT (h) (o4) = 9
    rotate_left
    · rw [if_neg hg6] at hp; cases hp
    rw [if_pos hg6] at hp
    refine e_getI f146_14 hg6 (by decide) ?_
    refine e_bipush (v := 20) f146_17 (by decide) ?_
    by_cases hc7 : (hI (h) (o4) 7) < ((20) : Int32)
    · rw [if_pos hc7] at hp
      refine e_icmp_ge_f f146_19 hc7 ?_
      refine e_lload_n f146_22 rfl ?_
      refine e_aload_n f146_23 rfl ?_
      refine e_getR f146_24 (WF.t w 32 (by decide)) rfl (WF.r (q := 50) w 32 8 (by decide)) ?_
      obtain ⟨r8, hr9, hp⟩ := bind_some hp
      try dsimp only at hp
      refine e_callV (st := [.long (a1)]) (o := 50) (as := []) f146_27 (by decide) rfl rfl (Nat.le_of_ble_eq_true rfl) (WF.t w 50 (by decide)) (Nat.le_of_ble_eq_true rfl) (p10_ok (d + 2) (h) w r8 hr9) ?_
      show ex _ 146 (30, [some (.ref (32)), some (.int (a0)), some (.long (a1)), none, some (.int (a2)), some (.int (a3)), some (.ref (o4))], [.long (r8), .long (a1)], h) = _
      refine e_ldc2 (v := -1) f146_30 (by decide) ?_
      refine e_lxor f146_33 ?_
      refine e_land f146_34 ?_
      refine e_lconst (v := 0) f146_35 (by decide) ?_
      refine e_lcmp f146_36 ?_
      by_cases hc10 : (lg_cmp ((a1) &&& ((r8) ^^^ ((-1 : Int64)))) ((0 : Int64))) = (0 : Int32)
      · rw [if_pos hc10] at hp
        refine e_if_ne_f f146_37 hc10 ?_
        refine e_iload f146_40 rfl ?_
        refine e_iconst (v := 1) f146_42 (by decide) ?_
        refine e_sipush (v := 200) f146_43 (by decide) ?_
        obtain ⟨r11, hr12, hp⟩ := bind_some hp
        try dsimp only at hp
        refine e_callS (st := []) (as := [.int (a2), .int (1), .int (200)]) f146_46 (by decide) rfl rfl (Nat.le_of_ble_eq_true rfl) (Nat.le_of_ble_eq_true rfl) (p166_ok (d + 2) (h) w (a2) (1) (200) r11 hr12) ?_
        show ex _ 146 (49, [some (.ref (32)), some (.int (a0)), some (.long (a1)), none, some (.int (a2)), some (.int (a3)), some (.ref (o4))], [.int (r11)], h) = _
        by_cases hc13 : (r11) = (0 : Int32)
        · rw [if_pos hc13] at hp
          refine e_if_eq_t f146_49 hc13 ?_
          refine e_iconst (v := -1) f146_64 (by decide) ?_
          have hp := Option.some.inj hp
          subst hp
          exact e_ireturn f146_65 (Or.inl rfl)
        · rw [if_neg hc13] at hp
          refine e_if_eq_f f146_49 hc13 ?_
          refine e_iload f146_52 rfl ?_
          refine e_iconst (v := 0) f146_54 (by decide) ?_
          refine e_ldcw (v := 999999) f146_55 (by decide) (by decide) ?_
          obtain ⟨r14, hr15, hp⟩ := bind_some hp
          try dsimp only at hp
          refine e_callS (st := []) (as := [.int (a3), .int (0), .int (999999)]) f146_58 (by decide) rfl rfl (Nat.le_of_ble_eq_true rfl) (Nat.le_of_ble_eq_true rfl) (p166_ok (d + 2) (h) w (a3) (0) (999999) r14 hr15) ?_
          show ex _ 146 (61, [some (.ref (32)), some (.int (a0)), some (.long (a1)), none, some (.int (a2)), some (.int (a3)), some (.ref (o4))], [.int (r14)], h) = _
          by_cases hc16 : (r14) = (0 : Int32)
          · rw [if_pos hc16] at hp
            refine e_if_ne_f f146_61 hc16 ?_
            refine e_iconst (v := -1) f146_64 (by decide) ?_
            have hp := Option.some.inj hp
            subst hp
            exact e_ireturn f146_65 (Or.inl rfl)
          · rw [if_neg hc16] at hp
            refine e_if_ne_t f146_61 hc16 ?_
            refine e_aload f146_66 rfl ?_
            refine e_lload_n f146_68 rfl ?_
            refine e_iload f146_69 rfl ?_
            refine e_iload f146_71 rfl ?_
            obtain ⟨r17, hr18, hp⟩ := bind_some hp
            try dsimp only at hp
            refine e_callV (st := []) (o := o4) (as := [.long (a1), .int (a2), .int (a3)]) f146_73 (by decide) rfl rfl (Nat.le_of_ble_eq_true rfl) hg6 (Nat.le_of_ble_eq_true rfl) (p96_ok (d + 2) (h) w (o4) (a1) (a2) (a3) hg6 r17 hr18) ?_
            show ex _ 146 (76, [some (.ref (32)), some (.int (a0)), some (.long (a1)), none, some (.int (a2)), some (.int (a3)), some (.ref (o4))], [.int (r17.1)], r17.2) = _
            have hp := Option.some.inj hp
            subst hp
            exact e_ireturn f146_76 (Or.inl rfl)
      · rw [if_neg hc10] at hp
        refine e_if_ne_t f146_37 hc10 ?_
        refine e_iconst (v := -1) f146_64 (by decide) ?_
        have hp := Option.some.inj hp
        subst hp
        exact e_ireturn f146_65 (Or.inl rfl)
    · rw [if_neg hc7] at hp
      refine e_icmp_ge_t f146_19 hc7 ?_
      refine e_iconst (v := -1) f146_64 (by decide) ?_
      have hp := Option.some.inj hp
      subst hp
      exact e_ireturn f146_65 (Or.inl rfl)
set_option maxRecDepth 100000 in
set_option maxHeartbeats 4000000 in
theorem p146_w (h : HS) (w : WF h) (a0 : Int32) (a1 : Int64) (a2 : Int32) (a3 : Int32) (r : Int32 × HS) (hp : p146 h a0 a1 a2 a3 = some r) : WF r.2 := by
  unfold p146 at hp
  obtain ⟨r1, hr2, hp⟩ := bind_some hp
  try dsimp only at hp
  by_cases hc3 : (r1) = none
  · rw [if_pos hc3] at hp
    have hp := Option.some.inj hp
    subst hp
    exact (w)
  · rw [if_neg hc3] at hp
    obtain ⟨o4, ho5, hp⟩ := bind_some hp
    try dsimp only at hp
    by_cases hg6 : hT (h) (o4) = 9
    rotate_left
    · rw [if_neg hg6] at hp; cases hp
    rw [if_pos hg6] at hp
    by_cases hc7 : (hI (h) (o4) 7) < ((20) : Int32)
    · rw [if_pos hc7] at hp
      obtain ⟨r8, hr9, hp⟩ := bind_some hp
      try dsimp only at hp
      by_cases hc10 : (lg_cmp ((a1) &&& ((r8) ^^^ ((-1 : Int64)))) ((0 : Int64))) = (0 : Int32)
      · rw [if_pos hc10] at hp
        obtain ⟨r11, hr12, hp⟩ := bind_some hp
        try dsimp only at hp
        by_cases hc13 : (r11) = (0 : Int32)
        · rw [if_pos hc13] at hp
          have hp := Option.some.inj hp
          subst hp
          exact (w)
        · rw [if_neg hc13] at hp
          obtain ⟨r14, hr15, hp⟩ := bind_some hp
          try dsimp only at hp
          by_cases hc16 : (r14) = (0 : Int32)
          · rw [if_pos hc16] at hp
            have hp := Option.some.inj hp
            subst hp
            exact (w)
          · rw [if_neg hc16] at hp
            obtain ⟨r17, hr18, hp⟩ := bind_some hp
            try dsimp only at hp
            have hp := Option.some.inj hp
            subst hp
            exact ((p96_w (h) w (o4) (a1) (a2) (a3) hg6  r17 hr18))
      · rw [if_neg hc10] at hp
        have hp := Option.some.inj hp
        subst hp
        exact (w)
    · rw [if_neg hc7] at hp
      have hp := Option.some.inj hp
      subst hp
      exact (w)
theorem f147_0 : fetch 147 0 = some (.aload_n 0, 0, 0, 0) := rfl
theorem f147_1 : fetch 147 1 = some (.getfield 348, 11, 4, 0) := rfl
theorem f147_4 : fetch 147 4 = some (.bipush 30, 0, 0, 0) := rfl
theorem f147_6 : fetch 147 6 = some (.if_icmp .ge 19, 25, 0, 0) := rfl
theorem f147_9 : fetch 147 9 = some (.iload_n 1, 0, 0, 0) := rfl
theorem f147_10 : fetch 147 10 = some (.iconst (-1), 0, 0, 0) := rfl
theorem f147_11 : fetch 147 11 = some (.if_icmp .eq 16, 27, 0, 0) := rfl
theorem f147_14 : fetch 147 14 = some (.aload_n 0, 0, 0, 0) := rfl
theorem f147_15 : fetch 147 15 = some (.getfield 38, 11, 8, 2) := rfl
theorem f147_18 : fetch 147 18 = some (.iload_n 1, 0, 0, 0) := rfl
theorem f147_19 : fetch 147 19 = some (.invokevirtual 202, 1, 1, 0) := rfl
theorem f147_22 : fetch 147 22 = some (.ifCond .ne 5, 27, 0, 0) := rfl
theorem f147_25 : fetch 147 25 = some (.iconst (-1), 0, 0, 0) := rfl
theorem f147_26 : fetch 147 26 = some (.ireturn, 0, 0, 0) := rfl
theorem f147_27 : fetch 147 27 = some (.aload_n 0, 0, 0, 0) := rfl
theorem f147_28 : fetch 147 28 = some (.getfield 66, 11, 12, 2) := rfl
theorem f147_31 : fetch 147 31 = some (.aload_n 0, 0, 0, 0) := rfl
theorem f147_32 : fetch 147 32 = some (.getfield 348, 11, 4, 0) := rfl
theorem f147_35 : fetch 147 35 = some (.new 64, 6, 5, 0) := rfl
theorem f147_38 : fetch 147 38 = some (.dup, 0, 0, 0) := rfl
theorem f147_39 : fetch 147 39 = some (.iload_n 1, 0, 0, 0) := rfl
theorem f147_40 : fetch 147 40 = some (.iload_n 2, 0, 0, 0) := rfl
theorem f147_41 : fetch 147 41 = some (.invokespecial 351, 72, 2, 3) := rfl
theorem f147_44 : fetch 147 44 = some (.aastore, 0, 0, 0) := rfl
theorem f147_45 : fetch 147 45 = some (.aload_n 0, 0, 0, 0) := rfl
theorem f147_46 : fetch 147 46 = some (.dup, 0, 0, 0) := rfl
theorem f147_47 : fetch 147 47 = some (.getfield 348, 11, 4, 0) := rfl
theorem f147_50 : fetch 147 50 = some (.dup_x1, 0, 0, 0) := rfl
theorem f147_51 : fetch 147 51 = some (.iconst 1, 0, 0, 0) := rfl
theorem f147_52 : fetch 147 52 = some (.iadd, 0, 0, 0) := rfl
theorem f147_53 : fetch 147 53 = some (.putfield 348, 11, 4, 0) := rfl
theorem f147_56 : fetch 147 56 = some (.ireturn, 0, 0, 0) := rfl
set_option maxRecDepth 100000 in
set_option maxHeartbeats 4000000 in
theorem p147_j27_ok (d : Nat) (a0 : Int32) (a1 : Int32) (h : HS) (w : WF h) (r : Int32 × HS) (hp : p147_j27 a0 a1 h = some r) : ex (d + 2) 147 (27, [some (.ref (32)), some (.int (a0)), some (.int (a1))], [], h) = some (some (.int (r.1)), r.2) := by
  unfold p147_j27 at hp
  refine e_aload_n f147_27 rfl ?_
  refine e_getR f147_28 (WF.t w 32 (by decide)) rfl (WF.r (q := 67) w 32 12 (by decide)) ?_
  refine e_aload_n f147_31 rfl ?_
  refine e_getI f147_32 (WF.t w 32 (by decide)) (by decide) ?_
  refine e_new f147_35 ?_
  obtain ⟨h6, e7, hp⟩ := bind_some hp
  try dsimp only at hp
  have e7 := Option.some.inj e7
  have w8 : WF h6 := e7 ▸ (WF.nw (t := 6) (n := 5) (f := fun _ => 0) w)
  rw [e7]
  refine e_dup f147_38 rfl ?_
  refine e_iload_n f147_39 rfl ?_
  refine e_iload_n f147_40 rfl ?_
  obtain ⟨r9, hr10, hp⟩ := bind_some hp
  try dsimp only at hp
  refine e_callI (st := [.ref ((h).1), .int (hI (h) (32) 4), .ref (67)]) (o := (h).1) (as := [.int (a0), .int (a1)]) f147_41 (by decide) rfl rfl (Nat.le_of_ble_eq_true rfl) (by rw [← e7]; exact (hT_new _ _ _ _)) (Nat.le_of_ble_eq_true rfl) (p72_ok (d + 1) (h6) w8 ((h).1) (a0) (a1) (by rw [← e7]; exact (hT_new _ _ _ _)) r9 hr10) ?_
  show ex _ 147 (44, [some (.ref (32)), some (.int (a0)), some (.int (a1))], [.ref ((h).1), .int (hI (h) (32) 4), .ref (67)], r9) = _
  by_cases hg11 : hT (r9) ((h).1) = 6
  rotate_left
  · rw [if_neg hg11] at hp; cases hp
  rw [if_pos hg11] at hp
  by_cases hg12 : (hI (h) (32) 4) < (0 : Int32) ∨ 30 ≤ (hI (h) (32) 4).toNatClampNeg
  · rw [if_pos hg12] at hp; cases hp
  rw [if_neg hg12] at hp
  refine e_aastore f147_44 (WF.t (p72_w (h6) w8 ((h).1) (a0) (a1) (by rw [← e7]; exact (hT_new _ _ _ _))  r9 hr10) 67 (by decide)) (by decide) hg11 (WF.n (p72_w (h6) w8 ((h).1) (a0) (a1) (by rw [← e7]; exact (hT_new _ _ _ _))  r9 hr10) 67 (by decide)) hg12 ?_
  refine e_aload_n f147_45 rfl ?_
  refine e_dup f147_46 rfl ?_
  refine e_getI f147_47 (WF.t (WF.ra (j := (hI (h) (32) 4).toNatClampNeg) (v := some ((h).1)) (p72_w (h6) w8 ((h).1) (a0) (a1) (by rw [← e7]; exact (hT_new _ _ _ _))  r9 hr10) 67 (by decide)) 32 (by decide)) (by decide) ?_
  refine e_dup_x1 f147_50 rfl rfl ?_
  refine e_iconst (v := 1) f147_51 (by decide) ?_
  refine e_iadd f147_52 ?_
  refine e_putI f147_53 (WF.t (WF.ra (j := (hI (h) (32) 4).toNatClampNeg) (v := some ((h).1)) (p72_w (h6) w8 ((h).1) (a0) (a1) (by rw [← e7]; exact (hT_new _ _ _ _))  r9 hr10) 67 (by decide)) 32 (by decide)) rfl ?_
  obtain ⟨h13, e14, hp⟩ := bind_some hp
  try dsimp only at hp
  have e14 := Option.some.inj e14
  have w15 : WF h13 := e14 ▸ (WF.ra (j := (hI (h) (32) 4).toNatClampNeg) (v := some ((h).1)) (p72_w (h6) w8 ((h).1) (a0) (a1) (by rw [← e7]; exact (hT_new _ _ _ _))  r9 hr10) 67 (by decide))
  rw [e14]
  have hp := Option.some.inj hp
  subst hp
  exact e_ireturn f147_56 (Or.inl rfl)
set_option maxRecDepth 100000 in
set_option maxHeartbeats 4000000 in
theorem p147_j27_w (a0 : Int32) (a1 : Int32) (h : HS) (w : WF h) (r : Int32 × HS) (hp : p147_j27 a0 a1 h = some r) : WF r.2 := by
  unfold p147_j27 at hp
  obtain ⟨h6, e7, hp⟩ := bind_some hp
  try dsimp only at hp
  have e7 := Option.some.inj e7
  have w8 : WF h6 := e7 ▸ (WF.nw (t := 6) (n := 5) (f := fun _ => 0) w)
  obtain ⟨r9, hr10, hp⟩ := bind_some hp
  try dsimp only at hp
  by_cases hg11 : hT (r9) ((h).1) = 6
  rotate_left
  · rw [if_neg hg11] at hp; cases hp
  rw [if_pos hg11] at hp
  by_cases hg12 : (hI (h) (32) 4) < (0 : Int32) ∨ 30 ≤ (hI (h) (32) 4).toNatClampNeg
  · rw [if_pos hg12] at hp; cases hp
  rw [if_neg hg12] at hp
  obtain ⟨h13, e14, hp⟩ := bind_some hp
  try dsimp only at hp
  have e14 := Option.some.inj e14
  have w15 : WF h13 := e14 ▸ (WF.ra (j := (hI (h) (32) 4).toNatClampNeg) (v := some ((h).1)) (p72_w (h6) w8 ((h).1) (a0) (a1) (by rw [← e7]; exact (hT_new _ _ _ _))  r9 hr10) 67 (by decide))
  have hp := Option.some.inj hp
  subst hp
  exact (w15)
set_option maxRecDepth 100000 in
set_option maxHeartbeats 4000000 in
theorem p147_ok (d : Nat) (h : HS) (w : WF h) (a0 : Int32) (a1 : Int32) (r : Int32 × HS) (hp : p147 h a0 a1 = some r) : ex (d + 2) 147 (ent 147 [.ref (32), .int (a0), .int (a1)] h) = some (some (.int (r.1)), r.2) := by
  rw [show ent 147 [.ref (32), .int (a0), .int (a1)] h = (0, [some (.ref (32)), some (.int (a0)), some (.int (a1))], [], h) from by  rfl]
  refine ex_weak (ls := [some (.ref (32)), some (.int (a0)), some (.int (a1))]) (le2_ok ⟨Or.inr rfl, Or.inr rfl, Or.inr rfl, trivial⟩) ?_
  unfold p147 at hp
  refine e_aload_n f147_0 rfl ?_
  refine e_getI f147_1 (WF.t w 32 (by decide)) (by decide) ?_
  refine e_bipush (v := 30) f147_4 (by decide) ?_
  by_cases hc1 : (hI (h) (32) 4) < ((30) : Int32)
  · rw [if_pos hc1] at hp
    refine e_icmp_ge_f f147_6 hc1 ?_
    refine e_iload_n f147_9 rfl ?_
    refine e_iconst (v := -1) f147_10 (by decide) ?_
    by_cases hc2 : (a0) = (((-1)) : Int32)
    · rw [if_pos hc2] at hp
      refine e_icmp_eq_t f147_11 hc2 ?_
      refine ex_weak (ls := [some (.ref (32)), some (.int (a0)), some (.int (a1))]) (le2_ok ⟨Or.inr rfl, Or.inr rfl, Or.inr rfl, trivial⟩) ?_
      exact p147_j27_ok d a0 a1 (h) (w)  _ hp
    · rw [if_neg hc2] at hp
      refine e_icmp_eq_f f147_11 hc2 ?_
      refine e_aload_n f147_14 rfl ?_
      refine e_getR f147_15 (WF.t w 32 (by decide)) rfl (WF.r (q := 50) w 32 8 (by decide)) ?_
      refine e_iload_n f147_18 rfl ?_
      obtain ⟨r3, hr4, hp⟩ := bind_some hp
      try dsimp only at hp
      refine e_callV (st := []) (o := 50) (as := [.int (a0)]) f147_19 (by decide) rfl rfl (Nat.le_of_ble_eq_true rfl) (WF.t w 50 (by decide)) (Nat.le_of_ble_eq_true rfl) (p1_ok d (h) w (a0) r3 hr4) ?_
      show ex _ 147 (22, [some (.ref (32)), some (.int (a0)), some (.int (a1))], [.int (r3)], h) = _
      by_cases hc5 : (r3) = (0 : Int32)
      · rw [if_pos hc5] at hp
        refine e_if_ne_f f147_22 hc5 ?_
        refine e_iconst (v := -1) f147_25 (by decide) ?_
        have hp := Option.some.inj hp
        subst hp
        exact e_ireturn f147_26 (Or.inl rfl)
      · rw [if_neg hc5] at hp
        refine e_if_ne_t f147_22 hc5 ?_
        refine ex_weak (ls := [some (.ref (32)), some (.int (a0)), some (.int (a1))]) (le2_ok ⟨Or.inr rfl, Or.inr rfl, Or.inr rfl, trivial⟩) ?_
        exact p147_j27_ok d a0 a1 (h) (w)  _ hp
  · rw [if_neg hc1] at hp
    refine e_icmp_ge_t f147_6 hc1 ?_
    refine e_iconst (v := -1) f147_25 (by decide) ?_
    have hp := Option.some.inj hp
    subst hp
    exact e_ireturn f147_26 (Or.inl rfl)
set_option maxRecDepth 100000 in
set_option maxHeartbeats 4000000 in
theorem p147_w (h : HS) (w : WF h) (a0 : Int32) (a1 : Int32) (r : Int32 × HS) (hp : p147 h a0 a1 = some r) : WF r.2 := by
  unfold p147 at hp
  by_cases hc1 : (hI (h) (32) 4) < ((30) : Int32)
  · rw [if_pos hc1] at hp
    by_cases hc2 : (a0) = (((-1)) : Int32)
    · rw [if_pos hc2] at hp
      exact p147_j27_w a0 a1 (h) (w)  _ hp
    · rw [if_neg hc2] at hp
      obtain ⟨r3, hr4, hp⟩ := bind_some hp
      try dsimp only at hp
      by_cases hc5 : (r3) = (0 : Int32)
      · rw [if_pos hc5] at hp
        have hp := Option.some.inj hp
        subst hp
        exact (w)
      · rw [if_neg hc5] at hp
        exact p147_j27_w a0 a1 (h) (w)  _ hp
  · rw [if_neg hc1] at hp
    have hp := Option.some.inj hp
    subst hp
    exact (w)
theorem f173_0 : fetch 173 0 = some (.iload_n 1, 0, 0, 0) := rfl
theorem f173_1 : fetch 173 1 = some (.iconst 0, 0, 0, 0) := rfl
theorem f173_2 : fetch 173 2 = some (.aload_n 0, 0, 0, 0) := rfl
theorem f173_3 : fetch 173 3 = some (.getfield 348, 11, 4, 0) := rfl
theorem f173_6 : fetch 173 6 = some (.iconst 1, 0, 0, 0) := rfl
theorem f173_7 : fetch 173 7 = some (.isub, 0, 0, 0) := rfl
theorem f173_8 : fetch 173 8 = some (.invokestatic 91, 166, 3, 1) := rfl
theorem f173_11 : fetch 173 11 = some (.ireturn, 0, 0, 1) := rfl
set_option maxRecDepth 100000 in
set_option maxHeartbeats 4000000 in
theorem p173_ok (d : Nat) (h : HS) (w : WF h) (a0 : Int32) (r : Int32) (hp : p173 h a0 = some r) : ex (d + 1) 173 (ent 173 [.ref (32), .int (a0)] h) = some (some (.int (r)), h) := by
  rw [show ent 173 [.ref (32), .int (a0)] h = (0, [some (.ref (32)), some (.int (a0))], [], h) from by  rfl]
  refine ex_weak (ls := [some (.ref (32)), some (.int (a0))]) (le2_ok ⟨Or.inr rfl, Or.inr rfl, trivial⟩) ?_
  unfold p173 at hp
  refine e_iload_n f173_0 rfl ?_
  refine e_iconst (v := 0) f173_1 (by decide) ?_
  refine e_aload_n f173_2 rfl ?_
  refine e_getI f173_3 (WF.t w 32 (by decide)) (by decide) ?_
  refine e_iconst (v := 1) f173_6 (by decide) ?_
  refine e_isub f173_7 ?_
  obtain ⟨r1, hr2, hp⟩ := bind_some hp
  try dsimp only at hp
  refine e_callS (st := []) (as := [.int (a0), .int (0), .int ((hI (h) (32) 4) - (1))]) f173_8 (by decide) rfl rfl (Nat.le_of_ble_eq_true rfl) (Nat.le_of_ble_eq_true rfl) (p166_ok d (h) w (a0) (0) ((hI (h) (32) 4) - (1)) r1 hr2) ?_
  show ex _ 173 (11, [some (.ref (32)), some (.int (a0))], [.int (r1)], h) = _
  by_cases hg3 : (r1) = (0 : Int32) ∨ (r1) = (1 : Int32)
  rotate_left
  · rw [if_neg hg3] at hp; cases hp
  rw [if_pos hg3] at hp
  have hp := Option.some.inj hp
  subst hp
  exact e_ireturn f173_11 (Or.inr hg3)
theorem f176_0 : fetch 176 0 = some (.aload_n 0, 0, 0, 0) := rfl
theorem f176_1 : fetch 176 1 = some (.iload_n 1, 0, 0, 0) := rfl
theorem f176_2 : fetch 176 2 = some (.invokevirtual 334, 175, 1, 0) := rfl
theorem f176_5 : fetch 176 5 = some (.istore_n 2, 0, 0, 0) := rfl
theorem f176_6 : fetch 176 6 = some (.iload_n 2, 0, 0, 0) := rfl
theorem f176_7 : fetch 176 7 = some (.iconst (-1), 0, 0, 0) := rfl
theorem f176_8 : fetch 176 8 = some (.if_icmp .ne 7, 15, 0, 0) := rfl
theorem f176_11 : fetch 176 11 = some (.aconst_null, 0, 0, 0) := rfl
theorem f176_12 : fetch 176 12 = some (.goto 9, 21, 0, 0) := rfl
theorem f176_15 : fetch 176 15 = some (.aload_n 0, 0, 0, 0) := rfl
theorem f176_16 : fetch 176 16 = some (.getfield 60, 11, 11, 2) := rfl
theorem f176_19 : fetch 176 19 = some (.iload_n 2, 0, 0, 0) := rfl
theorem f176_20 : fetch 176 20 = some (.aaload, 0, 0, 0) := rfl
theorem f176_21 : fetch 176 21 = some (.areturn, 0, 0, 0) := rfl
set_option maxRecDepth 100000 in
set_option maxHeartbeats 4000000 in
theorem p176_ok (d : Nat) (F : Nat) (h : HS) (w : WF h) (a0 : Int32) (r : Option Nat) (hp : p176 F h a0 = some r) : ex (d + 1) 176 (ent 176 [.ref (32), .int (a0)] h) = some (some (va_rf (r)), h) := by
  rw [show ent 176 [.ref (32), .int (a0)] h = (0, [some (.ref (32)), some (.int (a0)), none], [], h) from by  rfl]
  refine ex_weak (ls := [some (.ref (32)), some (.int (a0)), none]) (le2_ok ⟨Or.inr rfl, Or.inr rfl, Or.inr rfl, trivial⟩) ?_
  unfold p176 at hp
  refine e_aload_n f176_0 rfl ?_
  refine e_iload_n f176_1 rfl ?_
  obtain ⟨r1, hr2, hp⟩ := bind_some hp
  try dsimp only at hp
  refine e_callV (st := []) (o := 32) (as := [.int (a0)]) f176_2 (by decide) rfl rfl (Nat.le_of_ble_eq_true rfl) (WF.t w 32 (by decide)) (Nat.le_of_ble_eq_true rfl) (p175_ok d F (h) w (a0) r1 hr2) ?_
  show ex _ 176 (5, [some (.ref (32)), some (.int (a0)), none], [.int (r1)], h) = _
  refine e_istore_n (ls2 := [some (.ref (32)), some (.int (a0)), some (.int (r1))]) f176_5 (Nat.le_of_ble_eq_true rfl) rfl ?_
  refine e_iload_n f176_6 rfl ?_
  refine e_iconst (v := -1) f176_7 (by decide) ?_
  by_cases hc3 : (r1) = (((-1)) : Int32)
  · rw [if_pos hc3] at hp
    refine e_icmp_ne_f f176_8 hc3 ?_
    refine e_null f176_11 ?_
    refine e_goto f176_12 ?_
    have hp := Option.some.inj hp
    subst hp
    exact e_areturn (v := none) f176_21
  · rw [if_neg hc3] at hp
    refine e_icmp_ne_t f176_8 hc3 ?_
    refine e_aload_n f176_15 rfl ?_
    refine e_getR f176_16 (WF.t w 32 (by decide)) rfl (WF.r (q := 66) w 32 11 (by decide)) ?_
    refine e_iload_n f176_19 rfl ?_
    by_cases hg4 : (r1) < (0 : Int32) ∨ 20 ≤ (r1).toNatClampNeg
    · rw [if_pos hg4] at hp; cases hp
    rw [if_neg hg4] at hp
    refine e_aaload f176_20 (Or.inr (Or.inl (WF.t w 66 (by decide)))) (WF.n w 66 (by decide)) hg4 ?_
    have hp := Option.some.inj hp
    subst hp
    exact e_areturn f176_21
theorem f177_0 : fetch 177 0 = some (.aload_n 1, 0, 0, 0) := rfl
theorem f177_1 : fetch 177 1 = some (.ifnull 24, 25, 0, 0) := rfl
theorem f177_4 : fetch 177 4 = some (.aload_n 1, 0, 0, 0) := rfl
theorem f177_5 : fetch 177 5 = some (.getfield 478, 1, 1, 1) := rfl
theorem f177_8 : fetch 177 8 = some (.ifCond .eq 17, 25, 0, 0) := rfl
theorem f177_11 : fetch 177 11 = some (.aload_n 0, 0, 0, 0) := rfl
theorem f177_12 : fetch 177 12 = some (.getfield 38, 11, 8, 2) := rfl
theorem f177_15 : fetch 177 15 = some (.aload_n 0, 0, 0, 0) := rfl
theorem f177_16 : fetch 177 16 = some (.getfield 88, 11, 0, 0) := rfl
theorem f177_19 : fetch 177 19 = some (.invokevirtual 482, 18, 1, 0) := rfl
theorem f177_22 : fetch 177 22 = some (.goto 4, 26, 0, 0) := rfl
theorem f177_25 : fetch 177 25 = some (.lconst 0, 0, 0, 0) := rfl
theorem f177_26 : fetch 177 26 = some (.lreturn, 0, 0, 0) := rfl
set_option maxRecDepth 100000 in
set_option maxHeartbeats 4000000 in
theorem p177_ok (d : Nat) (F : Nat) (h : HS) (w : WF h) (a0 : Option Nat) (r : Int64) (hp : p177 F h a0 = some r) : ex (d + 5) 177 (ent 177 [.ref (32), va_rf (a0)] h) = some (some (.long (r)), h) := by
  rw [show ent 177 [.ref (32), va_rf (a0)] h = (0, [some (.ref (32)), some (va_rf (a0))], [], h) from by cases a0 <;> rfl]
  refine ex_weak (ls := [some (.ref (32)), some (va_rf (a0))]) (le2_ok ⟨Or.inr rfl, Or.inr rfl, trivial⟩) ?_
  unfold p177 at hp
  refine e_qload_n f177_0 rfl ?_
  by_cases hc1 : (a0) = none
  · rw [if_pos hc1] at hp
    rw [hc1]
    refine e_ifnull_t f177_1 ?_
    refine e_lconst (v := 0) f177_25 (by decide) ?_
    have hp := Option.some.inj hp
    subst hp
    exact e_lreturn f177_26
  · rw [if_neg hc1] at hp
    obtain ⟨o2, ho3, hp⟩ := bind_some hp
    try dsimp only at hp
    rw [ho3]
    refine e_ifnull_f f177_1 ?_
    refine e_aload_n f177_4 rfl ?_
    by_cases hg4 : hT (h) (o2) = 1
    rotate_left
    · rw [if_neg hg4] at hp; cases hp
    rw [if_pos hg4] at hp
    refine e_getI f177_5 hg4 (by decide) ?_
    by_cases hc5 : (hI (h) (o2) 1) = (0 : Int32)
    · rw [if_pos hc5] at hp
      refine e_if_eq_t f177_8 hc5 ?_
      refine e_lconst (v := 0) f177_25 (by decide) ?_
      have hp := Option.some.inj hp
      subst hp
      exact e_lreturn f177_26
    · rw [if_neg hc5] at hp
      refine e_if_eq_f f177_8 hc5 ?_
      refine e_aload_n f177_11 rfl ?_
      refine e_getR f177_12 (WF.t w 32 (by decide)) rfl (WF.r (q := 50) w 32 8 (by decide)) ?_
      refine e_aload_n f177_15 rfl ?_
      refine e_getI f177_16 (WF.t w 32 (by decide)) (by decide) ?_
      obtain ⟨r6, hr7, hp⟩ := bind_some hp
      try dsimp only at hp
      refine e_callV (st := []) (o := 50) (as := [.int (hI (h) (32) 0)]) f177_19 (by decide) rfl rfl (Nat.le_of_ble_eq_true rfl) (WF.t w 50 (by decide)) (Nat.le_of_ble_eq_true rfl) (p18_ok d F (h) w (hI (h) (32) 0) r6 hr7) ?_
      show ex _ 177 (22, [some (.ref (32)), some (.ref (o2))], [.long (r6)], h) = _
      refine e_goto f177_22 ?_
      have hp := Option.some.inj hp
      subst hp
      exact e_lreturn f177_26
theorem f178_0 : fetch 178 0 = some (.aload_n 0, 0, 0, 0) := rfl
theorem f178_1 : fetch 178 1 = some (.getfield 84, 11, 15, 2) := rfl
theorem f178_4 : fetch 178 4 = some (.lconst 0, 0, 0, 0) := rfl
theorem f178_5 : fetch 178 5 = some (.invokestatic 486, 311, 2, 1) := rfl
theorem f178_8 : fetch 178 8 = some (.aload_n 0, 0, 0, 0) := rfl
theorem f178_9 : fetch 178 9 = some (.getfield 84, 11, 15, 2) := rfl
theorem f178_12 : fetch 178 12 = some (.iconst 3, 0, 0, 0) := rfl
theorem f178_13 : fetch 178 13 = some (.aload_n 0, 0, 0, 0) := rfl
theorem f178_14 : fetch 178 14 = some (.getfield 88, 11, 0, 0) := rfl
theorem f178_17 : fetch 178 17 = some (.aload_n 2, 0, 0, 0) := rfl
theorem f178_18 : fetch 178 18 = some (.getfield 178, 9, 1, 0) := rfl
theorem f178_21 : fetch 178 21 = some (.isub, 0, 0, 0) := rfl
theorem f178_22 : fetch 178 22 = some (.i2l, 0, 0, 0) := rfl
theorem f178_23 : fetch 178 23 = some (.lastore, 0, 0, 0) := rfl
theorem f178_24 : fetch 178 24 = some (.aload_n 0, 0, 0, 0) := rfl
theorem f178_25 : fetch 178 25 = some (.getfield 84, 11, 15, 2) := rfl
theorem f178_28 : fetch 178 28 = some (.iconst 4, 0, 0, 0) := rfl
theorem f178_29 : fetch 178 29 = some (.aload_n 2, 0, 0, 0) := rfl
theorem f178_30 : fetch 178 30 = some (.getfield 184, 9, 7, 0) := rfl
theorem f178_33 : fetch 178 33 = some (.i2l, 0, 0, 0) := rfl
theorem f178_34 : fetch 178 34 = some (.lastore, 0, 0, 0) := rfl
theorem f178_35 : fetch 178 35 = some (.aload_n 0, 0, 0, 0) := rfl
theorem f178_36 : fetch 178 36 = some (.getfield 84, 11, 15, 2) := rfl
theorem f178_39 : fetch 178 39 = some (.iconst 5, 0, 0, 0) := rfl
theorem f178_40 : fetch 178 40 = some (.aload_n 1, 0, 0, 0) := rfl
theorem f178_41 : fetch 178 41 = some (.getfield 492, 6, 1, 1) := rfl
theorem f178_44 : fetch 178 44 = some (.ifCond .eq 7, 51, 0, 0) := rfl
theorem f178_47 : fetch 178 47 = some (.lconst 1, 0, 0, 0) := rfl
theorem f178_48 : fetch 178 48 = some (.goto 4, 52, 0, 0) := rfl
theorem f178_51 : fetch 178 51 = some (.lconst 0, 0, 0, 0) := rfl
theorem f178_52 : fetch 178 52 = some (.lastore, 0, 0, 0) := rfl
theorem f178_53 : fetch 178 53 = some (.aload_n 0, 0, 0, 0) := rfl
theorem f178_54 : fetch 178 54 = some (.getfield 84, 11, 15, 2) := rfl
theorem f178_57 : fetch 178 57 = some (.bipush 6, 0, 0, 0) := rfl
theorem f178_59 : fetch 178 59 = some (.aload_n 1, 0, 0, 0) := rfl
theorem f178_60 : fetch 178 60 = some (.getfield 376, 6, 2, 2) := rfl
theorem f178_63 : fetch 178 63 = some (.ifnull 16, 79, 0, 0) := rfl
theorem f178_66 : fetch 178 66 = some (.aload_n 0, 0, 0, 0) := rfl
theorem f178_67 : fetch 178 67 = some (.getfield 88, 11, 0, 0) := rfl
theorem f178_70 : fetch 178 70 = some (.aload_n 1, 0, 0, 0) := rfl
theorem f178_71 : fetch 178 71 = some (.getfield 380, 6, 3, 0) := rfl
theorem f178_74 : fetch 178 74 = some (.isub, 0, 0, 0) := rfl
theorem f178_75 : fetch 178 75 = some (.i2l, 0, 0, 0) := rfl
theorem f178_76 : fetch 178 76 = some (.goto 4, 80, 0, 0) := rfl
theorem f178_79 : fetch 178 79 = some (.lconst 0, 0, 0, 0) := rfl
theorem f178_80 : fetch 178 80 = some (.lastore, 0, 0, 0) := rfl
theorem f178_81 : fetch 178 81 = some (.aload_n 0, 0, 0, 0) := rfl
theorem f178_82 : fetch 178 82 = some (.getfield 84, 11, 15, 2) := rfl
theorem f178_85 : fetch 178 85 = some (.bipush 7, 0, 0, 0) := rfl
theorem f178_87 : fetch 178 87 = some (.aload_n 1, 0, 0, 0) := rfl
theorem f178_88 : fetch 178 88 = some (.getfield 376, 6, 2, 2) := rfl
theorem f178_91 : fetch 178 91 = some (.ifnull 13, 104, 0, 0) := rfl
theorem f178_94 : fetch 178 94 = some (.aload_n 1, 0, 0, 0) := rfl
theorem f178_95 : fetch 178 95 = some (.getfield 383, 6, 4, 0) := rfl
theorem f178_98 : fetch 178 98 = some (.iconst 1, 0, 0, 0) := rfl
theorem f178_99 : fetch 178 99 = some (.isub, 0, 0, 0) := rfl
theorem f178_100 : fetch 178 100 = some (.i2l, 0, 0, 0) := rfl
theorem f178_101 : fetch 178 101 = some (.goto 8, 109, 0, 0) := rfl
theorem f178_104 : fetch 178 104 = some (.aload_n 1, 0, 0, 0) := rfl
theorem f178_105 : fetch 178 105 = some (.getfield 383, 6, 4, 0) := rfl
theorem f178_108 : fetch 178 108 = some (.i2l, 0, 0, 0) := rfl
theorem f178_109 : fetch 178 109 = some (.lastore, 0, 0, 0) := rfl
theorem f178_110 : fetch 178 110 = some (.aload_n 0, 0, 0, 0) := rfl
theorem f178_111 : fetch 178 111 = some (.getfield 84, 11, 15, 2) := rfl
theorem f178_114 : fetch 178 114 = some (.bipush 10, 0, 0, 0) := rfl
theorem f178_116 : fetch 178 116 = some (.aload_n 0, 0, 0, 0) := rfl
theorem f178_117 : fetch 178 117 = some (.getfield 88, 11, 0, 0) := rfl
theorem f178_120 : fetch 178 120 = some (.i2l, 0, 0, 0) := rfl
theorem f178_121 : fetch 178 121 = some (.lastore, 0, 0, 0) := rfl
theorem f178_122 : fetch 178 122 = some (.return_, 0, 0, 0) := rfl
set_option maxRecDepth 100000 in
set_option maxHeartbeats 4000000 in
theorem p178_j109_ok (d : Nat) (F : Nat) (a0 : Option Nat) (a1 : Option Nat) (h : HS) (w : WF h) (s0 : Int64) (s1 : Int32) (r : HS) (hp : p178_j109 F a0 a1 h s0 s1 = some r) : ex (d + 1) 178 (109, [some (.ref (32)), none, none], [.long (s0), .int (s1), .ref (85)], h) = some (none, r) := by
  unfold p178_j109 at hp
  by_cases hg29 : (s1) < (0 : Int32) ∨ 11 ≤ (s1).toNatClampNeg
  · rw [if_pos hg29] at hp; cases hp
  rw [if_neg hg29] at hp
  refine e_lastore f178_109 (WF.t w 85 (by decide)) (WF.n w 85 (by decide)) hg29 ?_
  refine e_aload_n f178_110 rfl ?_
  refine e_getR f178_111 (WF.t w 32 (by decide)) rfl (WF.r (q := 85) w 32 15 (by decide)) ?_
  refine e_bipush (v := 10) f178_114 (by decide) ?_
  refine e_aload_n f178_116 rfl ?_
  refine e_getI f178_117 (WF.t w 32 (by decide)) (by decide) ?_
  refine e_i2l f178_120 ?_
  by_cases hg30 : (10) < (0 : Int32) ∨ 11 ≤ (10 : Int32).toNatClampNeg
  · rw [if_pos hg30] at hp; cases hp
  rw [if_neg hg30] at hp
  refine e_lastore f178_121 (WF.t w 85 (by decide)) (WF.n w 85 (by decide)) hg30 ?_
  obtain ⟨h31, e32, hp⟩ := bind_some hp
  try dsimp only at hp
  have e32 := Option.some.inj e32
  have w33 : WF h31 := e32 ▸ w
  rw [e32]
  have hp := Option.some.inj hp
  subst hp
  exact e_return f178_122
set_option maxRecDepth 100000 in
set_option maxHeartbeats 4000000 in
theorem p178_j109_w (F : Nat) (a0 : Option Nat) (a1 : Option Nat) (h : HS) (w : WF h) (s0 : Int64) (s1 : Int32) (r : HS) (hp : p178_j109 F a0 a1 h s0 s1 = some r) : WF r := by
  unfold p178_j109 at hp
  by_cases hg29 : (s1) < (0 : Int32) ∨ 11 ≤ (s1).toNatClampNeg
  · rw [if_pos hg29] at hp; cases hp
  rw [if_neg hg29] at hp
  by_cases hg30 : (10) < (0 : Int32) ∨ 11 ≤ (10 : Int32).toNatClampNeg
  · rw [if_pos hg30] at hp; cases hp
  rw [if_neg hg30] at hp
  obtain ⟨h31, e32, hp⟩ := bind_some hp
  try dsimp only at hp
  have e32 := Option.some.inj e32
  have w33 : WF h31 := e32 ▸ w
  have hp := Option.some.inj hp
  subst hp
  exact (w33)
set_option maxRecDepth 100000 in
set_option maxHeartbeats 4000000 in
theorem p178_j80_ok (d : Nat) (F : Nat) (a0 : Option Nat) (a1 : Option Nat) (h : HS) (w : WF h) (s0 : Int64) (s1 : Int32) (r : HS) (hp : p178_j80 F a0 a1 h s0 s1 = some r) : ex (d + 1) 178 (80, [some (.ref (32)), some (va_rf (a0)), none], [.long (s0), .int (s1), .ref (85)], h) = some (none, r) := by
  unfold p178_j80 at hp
  by_cases hg22 : (s1) < (0 : Int32) ∨ 11 ≤ (s1).toNatClampNeg
  · rw [if_pos hg22] at hp; cases hp
  rw [if_neg hg22] at hp
  refine e_lastore f178_80 (WF.t w 85 (by decide)) (WF.n w 85 (by decide)) hg22 ?_
  refine e_aload_n f178_81 rfl ?_
  refine e_getR f178_82 (WF.t w 32 (by decide)) rfl (WF.r (q := 85) w 32 15 (by decide)) ?_
  refine e_bipush (v := 7) f178_85 (by decide) ?_
  refine e_qload_n f178_87 rfl ?_
  obtain ⟨o23, ho24, hp⟩ := bind_some hp
  try dsimp only at hp
  rw [ho24]
  by_cases hg25 : hT (hsL (h) (85) (s1).toNatClampNeg (s0)) (o23) = 6
  rotate_left
  · rw [if_neg hg25] at hp; cases hp
  rw [if_pos hg25] at hp
  refine e_getQ f178_88 hg25 rfl ?_
  by_cases hc26 : (hR (hsL (h) (85) (s1).toNatClampNeg (s0)) (o23) 2) = none
  · rw [if_pos hc26] at hp
    rw [hc26]
    refine e_ifnull_t f178_91 ?_
    refine e_aload_n f178_104 rfl ?_
    refine e_getI f178_105 hg25 (by decide) ?_
    refine e_i2l f178_108 ?_
    refine ex_weak (ls := [some (.ref (32)), none, none]) (le2_ok ⟨Or.inr rfl, Or.inl rfl, Or.inl rfl, trivial⟩) ?_
    exact p178_j109_ok d F a0 a1 (hsL (h) (85) (s1).toNatClampNeg (s0)) (w) ((hI (hsL (h) (85) (s1).toNatClampNeg (s0)) (o23) 4).toInt64) (7) _ hp
  · rw [if_neg hc26] at hp
    obtain ⟨o27, ho28, hp⟩ := bind_some hp
    try dsimp only at hp
    rw [ho28]
    refine e_ifnull_f f178_91 ?_
    refine e_aload_n f178_94 rfl ?_
    refine e_getI f178_95 hg25 (by decide) ?_
    refine e_iconst (v := 1) f178_98 (by decide) ?_
    refine e_isub f178_99 ?_
    refine e_i2l f178_100 ?_
    refine e_goto f178_101 ?_
    refine ex_weak (ls := [some (.ref (32)), none, none]) (le2_ok ⟨Or.inr rfl, Or.inl rfl, Or.inl rfl, trivial⟩) ?_
    exact p178_j109_ok d F a0 a1 (hsL (h) (85) (s1).toNatClampNeg (s0)) (w) (((hI (hsL (h) (85) (s1).toNatClampNeg (s0)) (o23) 4) - (1)).toInt64) (7) _ hp
set_option maxRecDepth 100000 in
set_option maxHeartbeats 4000000 in
theorem p178_j80_w (F : Nat) (a0 : Option Nat) (a1 : Option Nat) (h : HS) (w : WF h) (s0 : Int64) (s1 : Int32) (r : HS) (hp : p178_j80 F a0 a1 h s0 s1 = some r) : WF r := by
  unfold p178_j80 at hp
  by_cases hg22 : (s1) < (0 : Int32) ∨ 11 ≤ (s1).toNatClampNeg
  · rw [if_pos hg22] at hp; cases hp
  rw [if_neg hg22] at hp
  obtain ⟨o23, ho24, hp⟩ := bind_some hp
  try dsimp only at hp
  by_cases hg25 : hT (hsL (h) (85) (s1).toNatClampNeg (s0)) (o23) = 6
  rotate_left
  · rw [if_neg hg25] at hp; cases hp
  rw [if_pos hg25] at hp
  by_cases hc26 : (hR (hsL (h) (85) (s1).toNatClampNeg (s0)) (o23) 2) = none
  · rw [if_pos hc26] at hp
    exact p178_j109_w F a0 a1 (hsL (h) (85) (s1).toNatClampNeg (s0)) (w) ((hI (hsL (h) (85) (s1).toNatClampNeg (s0)) (o23) 4).toInt64) (7) _ hp
  · rw [if_neg hc26] at hp
    obtain ⟨o27, ho28, hp⟩ := bind_some hp
    try dsimp only at hp
    exact p178_j109_w F a0 a1 (hsL (h) (85) (s1).toNatClampNeg (s0)) (w) (((hI (hsL (h) (85) (s1).toNatClampNeg (s0)) (o23) 4) - (1)).toInt64) (7) _ hp
set_option maxRecDepth 100000 in
set_option maxHeartbeats 4000000 in
theorem p178_j52_ok (d : Nat) (F : Nat) (a0 : Option Nat) (a1 : Option Nat) (h : HS) (w : WF h) (s0 : Int64) (s1 : Int32) (r : HS) (hp : p178_j52 F a0 a1 h s0 s1 = some r) : ex (d + 1) 178 (52, [some (.ref (32)), some (va_rf (a0)), none], [.long (s0), .int (s1), .ref (85)], h) = some (none, r) := by
  unfold p178_j52 at hp
  by_cases hg15 : (s1) < (0 : Int32) ∨ 11 ≤ (s1).toNatClampNeg
  · rw [if_pos hg15] at hp; cases hp
  rw [if_neg hg15] at hp
  refine e_lastore f178_52 (WF.t w 85 (by decide)) (WF.n w 85 (by decide)) hg15 ?_
  refine e_aload_n f178_53 rfl ?_
  refine e_getR f178_54 (WF.t w 32 (by decide)) rfl (WF.r (q := 85) w 32 15 (by decide)) ?_
  refine e_bipush (v := 6) f178_57 (by decide) ?_
  refine e_qload_n f178_59 rfl ?_
  obtain ⟨o16, ho17, hp⟩ := bind_some hp
  try dsimp only at hp
  rw [ho17]
  by_cases hg18 : hT (hsL (h) (85) (s1).toNatClampNeg (s0)) (o16) = 6
  rotate_left
  · rw [if_neg hg18] at hp; cases hp
  rw [if_pos hg18] at hp
  refine e_getQ f178_60 hg18 rfl ?_
  by_cases hc19 : (hR (hsL (h) (85) (s1).toNatClampNeg (s0)) (o16) 2) = none
  · rw [if_pos hc19] at hp
    rw [hc19]
    refine e_ifnull_t f178_63 ?_
    refine e_lconst (v := 0) f178_79 (by decide) ?_
    refine ex_weak (ls := [some (.ref (32)), some (va_rf (a0)), none]) (le2_ok ⟨Or.inr rfl, Or.inr (congrArg (fun z => some (va_rf z)) ho17), Or.inl rfl, trivial⟩) ?_
    exact p178_j80_ok d F a0 a1 (hsL (h) (85) (s1).toNatClampNeg (s0)) (w) ((0 : Int64)) (6) _ hp
  · rw [if_neg hc19] at hp
    obtain ⟨o20, ho21, hp⟩ := bind_some hp
    try dsimp only at hp
    rw [ho21]
    refine e_ifnull_f f178_63 ?_
    refine e_aload_n f178_66 rfl ?_
    refine e_getI f178_67 (WF.t w 32 (by decide)) (by decide) ?_
    refine e_aload_n f178_70 rfl ?_
    refine e_getI f178_71 hg18 (by decide) ?_
    refine e_isub f178_74 ?_
    refine e_i2l f178_75 ?_
    refine e_goto f178_76 ?_
    refine ex_weak (ls := [some (.ref (32)), some (va_rf (a0)), none]) (le2_ok ⟨Or.inr rfl, Or.inr (congrArg (fun z => some (va_rf z)) ho17), Or.inl rfl, trivial⟩) ?_
    exact p178_j80_ok d F a0 a1 (hsL (h) (85) (s1).toNatClampNeg (s0)) (w) (((hI (hsL (h) (85) (s1).toNatClampNeg (s0)) (32) 0) - (hI (hsL (h) (85) (s1).toNatClampNeg (s0)) (o16) 3)).toInt64) (6) _ hp
set_option maxRecDepth 100000 in
set_option maxHeartbeats 4000000 in
theorem p178_j52_w (F : Nat) (a0 : Option Nat) (a1 : Option Nat) (h : HS) (w : WF h) (s0 : Int64) (s1 : Int32) (r : HS) (hp : p178_j52 F a0 a1 h s0 s1 = some r) : WF r := by
  unfold p178_j52 at hp
  by_cases hg15 : (s1) < (0 : Int32) ∨ 11 ≤ (s1).toNatClampNeg
  · rw [if_pos hg15] at hp; cases hp
  rw [if_neg hg15] at hp
  obtain ⟨o16, ho17, hp⟩ := bind_some hp
  try dsimp only at hp
  by_cases hg18 : hT (hsL (h) (85) (s1).toNatClampNeg (s0)) (o16) = 6
  rotate_left
  · rw [if_neg hg18] at hp; cases hp
  rw [if_pos hg18] at hp
  by_cases hc19 : (hR (hsL (h) (85) (s1).toNatClampNeg (s0)) (o16) 2) = none
  · rw [if_pos hc19] at hp
    exact p178_j80_w F a0 a1 (hsL (h) (85) (s1).toNatClampNeg (s0)) (w) ((0 : Int64)) (6) _ hp
  · rw [if_neg hc19] at hp
    obtain ⟨o20, ho21, hp⟩ := bind_some hp
    try dsimp only at hp
    exact p178_j80_w F a0 a1 (hsL (h) (85) (s1).toNatClampNeg (s0)) (w) (((hI (hsL (h) (85) (s1).toNatClampNeg (s0)) (32) 0) - (hI (hsL (h) (85) (s1).toNatClampNeg (s0)) (o16) 3)).toInt64) (6) _ hp
set_option maxRecDepth 100000 in
set_option maxHeartbeats 4000000 in
theorem p178_ok (d : Nat) (F : Nat) (h : HS) (w : WF h) (a0 : Option Nat) (a1 : Option Nat) (r : HS) (hp : p178 F h a0 a1 = some r) : ex (d + 1) 178 (ent 178 [.ref (32), va_rf (a0), va_rf (a1)] h) = some (none, r) := by
  rw [show ent 178 [.ref (32), va_rf (a0), va_rf (a1)] h = (0, [some (.ref (32)), some (va_rf (a0)), some (va_rf (a1))], [], h) from by cases a0 <;> cases a1 <;> rfl]
  refine ex_weak (ls := [some (.ref (32)), some (va_rf (a0)), some (va_rf (a1))]) (le2_ok ⟨Or.inr rfl, Or.inr rfl, Or.inr rfl, trivial⟩) ?_
  unfold p178 at hp
  refine e_aload_n f178_0 rfl ?_
  refine e_getR f178_1 (WF.t w 32 (by decide)) rfl (WF.r (q := 85) w 32 15 (by decide)) ?_
  refine e_lconst (v := 0) f178_4 (by decide) ?_
  obtain ⟨r1, hr2, hp⟩ := bind_some hp
  try dsimp only at hp
  refine e_callS (st := []) (as := [.ref (85), .long ((0 : Int64))]) f178_5 (by decide) rfl rfl (Nat.le_of_ble_eq_true rfl) (Nat.le_of_ble_eq_true rfl) (p311_ok d F (h) w (some (85)) ((0 : Int64)) r1 hr2) ?_
  show ex _ 178 (8, [some (.ref (32)), some (va_rf (a0)), some (va_rf (a1))], [], r1) = _
  refine e_aload_n f178_8 rfl ?_
  refine e_getR f178_9 (WF.t (p311_w F (h) w (some (85)) ((0 : Int64))  r1 hr2) 32 (by decide)) rfl (WF.r (q := 85) (p311_w F (h) w (some (85)) ((0 : Int64))  r1 hr2) 32 15 (by decide)) ?_
  refine e_iconst (v := 3) f178_12 (by decide) ?_
  refine e_aload_n f178_13 rfl ?_
  refine e_getI f178_14 (WF.t (p311_w F (h) w (some (85)) ((0 : Int64))  r1 hr2) 32 (by decide)) (by decide) ?_
  refine e_qload_n f178_17 rfl ?_
  obtain ⟨o3, ho4, hp⟩ := bind_some hp
  try dsimp only at hp
  rw [ho4]
  by_cases hg5 : hT (r1) (o3) = 9
  rotate_left
  · rw [if_neg hg5] at hp; cases hp
  rw [if_pos hg5] at hp
  refine e_getI f178_18 hg5 (by decide) ?_
  refine e_isub f178_21 ?_
  refine e_i2l f178_22 ?_
  by_cases hg6 : (3) < (0 : Int32) ∨ 11 ≤ (3 : Int32).toNatClampNeg
  · rw [if_pos hg6] at hp; cases hp
  rw [if_neg hg6] at hp
  refine e_lastore f178_23 (WF.t (p311_w F (h) w (some (85)) ((0 : Int64))  r1 hr2) 85 (by decide)) (WF.n (p311_w F (h) w (some (85)) ((0 : Int64))  r1 hr2) 85 (by decide)) hg6 ?_
  refine e_aload_n f178_24 rfl ?_
  refine e_getR f178_25 (WF.t (p311_w F (h) w (some (85)) ((0 : Int64))  r1 hr2) 32 (by decide)) rfl (WF.r (q := 85) (p311_w F (h) w (some (85)) ((0 : Int64))  r1 hr2) 32 15 (by decide)) ?_
  refine e_iconst (v := 4) f178_28 (by decide) ?_
  refine e_aload_n f178_29 rfl ?_
  refine e_getI f178_30 hg5 (by decide) ?_
  refine e_i2l f178_33 ?_
  by_cases hg7 : (4) < (0 : Int32) ∨ 11 ≤ (4 : Int32).toNatClampNeg
  · rw [if_pos hg7] at hp; cases hp
  rw [if_neg hg7] at hp
  refine e_lastore f178_34 (WF.t (p311_w F (h) w (some (85)) ((0 : Int64))  r1 hr2) 85 (by decide)) (WF.n (p311_w F (h) w (some (85)) ((0 : Int64))  r1 hr2) 85 (by decide)) hg7 ?_
  obtain ⟨h8, e9, hp⟩ := bind_some hp
  try dsimp only at hp
  have e9 := Option.some.inj e9
  have w10 : WF h8 := e9 ▸ (p311_w F (h) w (some (85)) ((0 : Int64))  r1 hr2)
  rw [e9]
  refine e_aload_n f178_35 rfl ?_
  refine e_getR f178_36 (WF.t w10 32 (by decide)) rfl (WF.r (q := 85) w10 32 15 (by decide)) ?_
  refine e_iconst (v := 5) f178_39 (by decide) ?_
  refine e_qload_n f178_40 rfl ?_
  obtain ⟨o11, ho12, hp⟩ := bind_some hp
  try dsimp only at hp
  rw [ho12]
  by_cases hg13 : hT (h8) (o11) = 6
  rotate_left
  · rw [if_neg hg13] at hp; cases hp
  rw [if_pos hg13] at hp
  refine e_getI f178_41 hg13 (by decide) ?_
  by_cases hc14 : (hI (h8) (o11) 1) = (0 : Int32)
  · rw [if_pos hc14] at hp
    refine e_if_eq_t f178_44 hc14 ?_
    refine e_lconst (v := 0) f178_51 (by decide) ?_
    refine ex_weak (ls := [some (.ref (32)), some (va_rf (a0)), none]) (le2_ok ⟨Or.inr rfl, Or.inr (congrArg (fun z => some (va_rf z)) ho12), Or.inl rfl, trivial⟩) ?_
    exact p178_j52_ok d F a0 a1 (h8) (w10) ((0 : Int64)) (5) _ hp
  · rw [if_neg hc14] at hp
    refine e_if_eq_f f178_44 hc14 ?_
    refine e_lconst (v := 1) f178_47 (by decide) ?_
    refine e_goto f178_48 ?_
    refine ex_weak (ls := [some (.ref (32)), some (va_rf (a0)), none]) (le2_ok ⟨Or.inr rfl, Or.inr (congrArg (fun z => some (va_rf z)) ho12), Or.inl rfl, trivial⟩) ?_
    exact p178_j52_ok d F a0 a1 (h8) (w10) ((1 : Int64)) (5) _ hp
set_option maxRecDepth 100000 in
set_option maxHeartbeats 4000000 in
theorem p178_w (F : Nat) (h : HS) (w : WF h) (a0 : Option Nat) (a1 : Option Nat) (r : HS) (hp : p178 F h a0 a1 = some r) : WF r := by
  unfold p178 at hp
  obtain ⟨r1, hr2, hp⟩ := bind_some hp
  try dsimp only at hp
  obtain ⟨o3, ho4, hp⟩ := bind_some hp
  try dsimp only at hp
  by_cases hg5 : hT (r1) (o3) = 9
  rotate_left
  · rw [if_neg hg5] at hp; cases hp
  rw [if_pos hg5] at hp
  by_cases hg6 : (3) < (0 : Int32) ∨ 11 ≤ (3 : Int32).toNatClampNeg
  · rw [if_pos hg6] at hp; cases hp
  rw [if_neg hg6] at hp
  by_cases hg7 : (4) < (0 : Int32) ∨ 11 ≤ (4 : Int32).toNatClampNeg
  · rw [if_pos hg7] at hp; cases hp
  rw [if_neg hg7] at hp
  obtain ⟨h8, e9, hp⟩ := bind_some hp
  try dsimp only at hp
  have e9 := Option.some.inj e9
  have w10 : WF h8 := e9 ▸ (p311_w F (h) w (some (85)) ((0 : Int64))  r1 hr2)
  obtain ⟨o11, ho12, hp⟩ := bind_some hp
  try dsimp only at hp
  by_cases hg13 : hT (h8) (o11) = 6
  rotate_left
  · rw [if_neg hg13] at hp; cases hp
  rw [if_pos hg13] at hp
  by_cases hc14 : (hI (h8) (o11) 1) = (0 : Int32)
  · rw [if_pos hc14] at hp
    exact p178_j52_w F a0 a1 (h8) (w10) ((0 : Int64)) (5) _ hp
  · rw [if_neg hc14] at hp
    exact p178_j52_w F a0 a1 (h8) (w10) ((1 : Int64)) (5) _ hp
theorem f179_0 : fetch 179 0 = some (.aload_n 1, 0, 0, 0) := rfl
theorem f179_1 : fetch 179 1 = some (.ifnonnull 5, 6, 0, 0) := rfl
theorem f179_4 : fetch 179 4 = some (.iconst (-1), 0, 0, 0) := rfl
theorem f179_5 : fetch 179 5 = some (.ireturn, 0, 0, 0) := rfl
theorem f179_6 : fetch 179 6 = some (.aload_n 2, 0, 0, 0) := rfl
theorem f179_7 : fetch 179 7 = some (.getfield 495, 6, 0, 0) := rfl
theorem f179_10 : fetch 179 10 = some (.iconst (-1), 0, 0, 0) := rfl
theorem f179_11 : fetch 179 11 = some (.if_icmp .ne 7, 18, 0, 0) := rfl
theorem f179_14 : fetch 179 14 = some (.lconst 0, 0, 0, 0) := rfl
theorem f179_15 : fetch 179 15 = some (.goto 9, 24, 0, 0) := rfl
theorem f179_18 : fetch 179 18 = some (.lconst 1, 0, 0, 0) := rfl
theorem f179_19 : fetch 179 19 = some (.aload_n 2, 0, 0, 0) := rfl
theorem f179_20 : fetch 179 20 = some (.getfield 495, 6, 0, 0) := rfl
theorem f179_23 : fetch 179 23 = some (.lshl, 0, 0, 0) := rfl
theorem f179_24 : fetch 179 24 = some (.lstore 7, 0, 0, 0) := rfl
theorem f179_26 : fetch 179 26 = some (.aload_n 3, 0, 0, 0) := rfl
theorem f179_27 : fetch 179 27 = some (.getfield 496, 9, 8, 2) := rfl
theorem f179_30 : fetch 179 30 = some (.iload 4, 0, 0, 0) := rfl
theorem f179_32 : fetch 179 32 = some (.laload, 0, 0, 0) := rfl
theorem f179_33 : fetch 179 33 = some (.lload 7, 0, 0, 0) := rfl
theorem f179_35 : fetch 179 35 = some (.ldc2_w 341, 0, 0, -1) := rfl
theorem f179_38 : fetch 179 38 = some (.lxor, 0, 0, 0) := rfl
theorem f179_39 : fetch 179 39 = some (.land, 0, 0, 0) := rfl
theorem f179_40 : fetch 179 40 = some (.lstore 9, 0, 0, 0) := rfl
theorem f179_42 : fetch 179 42 = some (.aload_n 0, 0, 0, 0) := rfl
theorem f179_43 : fetch 179 43 = some (.aload_n 2, 0, 0, 0) := rfl
theorem f179_44 : fetch 179 44 = some (.aload_n 3, 0, 0, 0) := rfl
theorem f179_45 : fetch 179 45 = some (.invokevirtual 499, 178, 2, 0) := rfl
theorem f179_48 : fetch 179 48 = some (.aload_n 0, 0, 0, 0) := rfl
theorem f179_49 : fetch 179 49 = some (.getfield 84, 11, 15, 2) := rfl
theorem f179_52 : fetch 179 52 = some (.iconst 0, 0, 0, 0) := rfl
theorem f179_53 : fetch 179 53 = some (.aload_n 3, 0, 0, 0) := rfl
theorem f179_54 : fetch 179 54 = some (.getfield 496, 9, 8, 2) := rfl
theorem f179_57 : fetch 179 57 = some (.iload 4, 0, 0, 0) := rfl
theorem f179_59 : fetch 179 59 = some (.laload, 0, 0, 0) := rfl
theorem f179_60 : fetch 179 60 = some (.lload 7, 0, 0, 0) := rfl
theorem f179_62 : fetch 179 62 = some (.land, 0, 0, 0) := rfl
theorem f179_63 : fetch 179 63 = some (.lconst 0, 0, 0, 0) := rfl
theorem f179_64 : fetch 179 64 = some (.lcmp, 0, 0, 0) := rfl
theorem f179_65 : fetch 179 65 = some (.ifCond .eq 7, 72, 0, 0) := rfl
theorem f179_68 : fetch 179 68 = some (.lconst 1, 0, 0, 0) := rfl
theorem f179_69 : fetch 179 69 = some (.goto 4, 73, 0, 0) := rfl
theorem f179_72 : fetch 179 72 = some (.lconst 0, 0, 0, 0) := rfl
theorem f179_73 : fetch 179 73 = some (.lastore, 0, 0, 0) := rfl
theorem f179_74 : fetch 179 74 = some (.aload_n 0, 0, 0, 0) := rfl
theorem f179_75 : fetch 179 75 = some (.getfield 84, 11, 15, 2) := rfl
theorem f179_78 : fetch 179 78 = some (.iconst 1, 0, 0, 0) := rfl
theorem f179_79 : fetch 179 79 = some (.lload 9, 0, 0, 0) := rfl
theorem f179_81 : fetch 179 81 = some (.invokestatic 273, 307, 1, 1) := rfl
theorem f179_84 : fetch 179 84 = some (.i2l, 0, 0, 0) := rfl
theorem f179_85 : fetch 179 85 = some (.lastore, 0, 0, 0) := rfl
theorem f179_86 : fetch 179 86 = some (.aload_n 0, 0, 0, 0) := rfl
theorem f179_87 : fetch 179 87 = some (.getfield 84, 11, 15, 2) := rfl
theorem f179_90 : fetch 179 90 = some (.iconst 2, 0, 0, 0) := rfl
theorem f179_91 : fetch 179 91 = some (.lload 9, 0, 0, 0) := rfl
theorem f179_93 : fetch 179 93 = some (.lload 5, 0, 0, 0) := rfl
theorem f179_95 : fetch 179 95 = some (.land, 0, 0, 0) := rfl
theorem f179_96 : fetch 179 96 = some (.invokestatic 273, 307, 1, 1) := rfl
theorem f179_99 : fetch 179 99 = some (.i2l, 0, 0, 0) := rfl
theorem f179_100 : fetch 179 100 = some (.lastore, 0, 0, 0) := rfl
theorem f179_101 : fetch 179 101 = some (.aload_n 1, 0, 0, 0) := rfl
theorem f179_102 : fetch 179 102 = some (.sipush 10021, 0, 0, 0) := rfl
theorem f179_105 : fetch 179 105 = some (.aload_n 0, 0, 0, 0) := rfl
theorem f179_106 : fetch 179 106 = some (.getfield 84, 11, 15, 2) := rfl
theorem f179_109 : fetch 179 109 = some (.invokevirtual 503, 25, 2, 0) := rfl
theorem f179_112 : fetch 179 112 = some (.ireturn, 0, 0, 0) := rfl
set_option maxRecDepth 100000 in
set_option maxHeartbeats 4000000 in
theorem p179_j73_ok (d : Nat) (F : Nat) (a0 : Option Nat) (a1 : Option Nat) (a2 : Option Nat) (a3 : Int32) (a4 : Int64) (h : HS) (w : WF h) (v9 : Int64) (s0 : Int64) (s1 : Int32) (r : Int32 × HS) (hp : p179_j73 F a0 a1 a2 a3 a4 h v9 s0 s1 = some r) : ex (d + 3) 179 (73, [some (.ref (32)), some (va_rf (a0)), none, none, none, some (.long (a4)), none, none, none, some (.long (v9)), none], [.long (s0), .int (s1), .ref (85)], h) = some (some (.int (r.1)), r.2) := by
  unfold p179_j73 at hp
  by_cases hg23 : (s1) < (0 : Int32) ∨ 11 ≤ (s1).toNatClampNeg
  · rw [if_pos hg23] at hp; cases hp
  rw [if_neg hg23] at hp
  refine e_lastore f179_73 (WF.t w 85 (by decide)) (WF.n w 85 (by decide)) hg23 ?_
  refine e_aload_n f179_74 rfl ?_
  refine e_getR f179_75 (WF.t w 32 (by decide)) rfl (WF.r (q := 85) w 32 15 (by decide)) ?_
  refine e_iconst (v := 1) f179_78 (by decide) ?_
  refine e_lload f179_79 rfl ?_
  obtain ⟨r24, hr25, hp⟩ := bind_some hp
  try dsimp only at hp
  refine e_callS (st := [.int (1), .ref (85)]) (as := [.long (v9)]) f179_81 (by decide) rfl rfl (Nat.le_of_ble_eq_true rfl) (Nat.le_of_ble_eq_true rfl) (p307_ok (d + 2) (hsL (h) (85) (s1).toNatClampNeg (s0)) w (v9) r24 hr25) ?_
  show ex _ 179 (84, [some (.ref (32)), some (va_rf (a0)), none, none, none, some (.long (a4)), none, none, none, some (.long (v9)), none], [.int (r24), .int (1), .ref (85)], hsL (h) (85) (s1).toNatClampNeg (s0)) = _
  refine e_i2l f179_84 ?_
  by_cases hg26 : (1) < (0 : Int32) ∨ 11 ≤ (1 : Int32).toNatClampNeg
  · rw [if_pos hg26] at hp; cases hp
  rw [if_neg hg26] at hp
  refine e_lastore f179_85 (WF.t w 85 (by decide)) (WF.n w 85 (by decide)) hg26 ?_
  refine e_aload_n f179_86 rfl ?_
  refine e_getR f179_87 (WF.t w 32 (by decide)) rfl (WF.r (q := 85) w 32 15 (by decide)) ?_
  refine e_iconst (v := 2) f179_90 (by decide) ?_
  refine e_lload f179_91 rfl ?_
  refine e_lload f179_93 rfl ?_
  refine e_land f179_95 ?_
  obtain ⟨r27, hr28, hp⟩ := bind_some hp
  try dsimp only at hp
  refine e_callS (st := [.int (2), .ref (85)]) (as := [.long ((v9) &&& (a4))]) f179_96 (by decide) rfl rfl (Nat.le_of_ble_eq_true rfl) (Nat.le_of_ble_eq_true rfl) (p307_ok (d + 2) (hsL (hsL (h) (85) (s1).toNatClampNeg (s0)) (85) (1 : Int32).toNatClampNeg ((r24).toInt64)) w ((v9) &&& (a4)) r27 hr28) ?_
  show ex _ 179 (99, [some (.ref (32)), some (va_rf (a0)), none, none, none, some (.long (a4)), none, none, none, some (.long (v9)), none], [.int (r27), .int (2), .ref (85)], hsL (hsL (h) (85) (s1).toNatClampNeg (s0)) (85) (1 : Int32).toNatClampNeg ((r24).toInt64)) = _
  refine e_i2l f179_99 ?_
  by_cases hg29 : (2) < (0 : Int32) ∨ 11 ≤ (2 : Int32).toNatClampNeg
  · rw [if_pos hg29] at hp; cases hp
  rw [if_neg hg29] at hp
  refine e_lastore f179_100 (WF.t w 85 (by decide)) (WF.n w 85 (by decide)) hg29 ?_
  obtain ⟨h30, e31, hp⟩ := bind_some hp
  try dsimp only at hp
  have e31 := Option.some.inj e31
  have w32 : WF h30 := e31 ▸ w
  rw [e31]
  refine e_qload_n f179_101 rfl ?_
  refine e_sipush (v := 10021) f179_102 (by decide) ?_
  refine e_aload_n f179_105 rfl ?_
  refine e_getR f179_106 (WF.t w32 32 (by decide)) rfl (WF.r (q := 85) w32 32 15 (by decide)) ?_
  obtain ⟨o33, ho34, hp⟩ := bind_some hp
  try dsimp only at hp
  rw [ho34]
  by_cases hg35 : hT (h30) (o33) = 1
  rotate_left
  · rw [if_neg hg35] at hp; cases hp
  rw [if_pos hg35] at hp
  obtain ⟨r36, hr37, hp⟩ := bind_some hp
  try dsimp only at hp
  refine e_callV (st := []) (o := o33) (as := [.int (10021), .ref (85)]) f179_109 (by decide) rfl rfl (Nat.le_of_ble_eq_true rfl) hg35 (Nat.le_of_ble_eq_true rfl) (p25_ok d F (h30) w32 (o33) (10021) (some (85)) hg35 r36 hr37) ?_
  show ex _ 179 (112, [some (.ref (32)), some (.ref (o33)), none, none, none, some (.long (a4)), none, none, none, some (.long (v9)), none], [.int (r36.1)], r36.2) = _
  have hp := Option.some.inj hp
  subst hp
  exact e_ireturn f179_112 (Or.inl rfl)
set_option maxRecDepth 100000 in
set_option maxHeartbeats 4000000 in
theorem p179_j73_w (F : Nat) (a0 : Option Nat) (a1 : Option Nat) (a2 : Option Nat) (a3 : Int32) (a4 : Int64) (h : HS) (w : WF h) (v9 : Int64) (s0 : Int64) (s1 : Int32) (r : Int32 × HS) (hp : p179_j73 F a0 a1 a2 a3 a4 h v9 s0 s1 = some r) : WF r.2 := by
  unfold p179_j73 at hp
  by_cases hg23 : (s1) < (0 : Int32) ∨ 11 ≤ (s1).toNatClampNeg
  · rw [if_pos hg23] at hp; cases hp
  rw [if_neg hg23] at hp
  obtain ⟨r24, hr25, hp⟩ := bind_some hp
  try dsimp only at hp
  by_cases hg26 : (1) < (0 : Int32) ∨ 11 ≤ (1 : Int32).toNatClampNeg
  · rw [if_pos hg26] at hp; cases hp
  rw [if_neg hg26] at hp
  obtain ⟨r27, hr28, hp⟩ := bind_some hp
  try dsimp only at hp
  by_cases hg29 : (2) < (0 : Int32) ∨ 11 ≤ (2 : Int32).toNatClampNeg
  · rw [if_pos hg29] at hp; cases hp
  rw [if_neg hg29] at hp
  obtain ⟨h30, e31, hp⟩ := bind_some hp
  try dsimp only at hp
  have e31 := Option.some.inj e31
  have w32 : WF h30 := e31 ▸ w
  obtain ⟨o33, ho34, hp⟩ := bind_some hp
  try dsimp only at hp
  by_cases hg35 : hT (h30) (o33) = 1
  rotate_left
  · rw [if_neg hg35] at hp; cases hp
  rw [if_pos hg35] at hp
  obtain ⟨r36, hr37, hp⟩ := bind_some hp
  try dsimp only at hp
  have hp := Option.some.inj hp
  subst hp
  exact ((p25_w F (h30) w32 (o33) (10021) (some (85)) hg35  r36 hr37))
set_option maxRecDepth 100000 in
set_option maxHeartbeats 4000000 in
theorem p179_j24_ok (d : Nat) (F : Nat) (a0 : Option Nat) (a1 : Option Nat) (a2 : Option Nat) (a3 : Int32) (a4 : Int64) (h : HS) (w : WF h) (s0 : Int64) (r : Int32 × HS) (hp : p179_j24 F a0 a1 a2 a3 a4 h s0 = some r) : ex (d + 3) 179 (24, [some (.ref (32)), some (va_rf (a0)), some (va_rf (a1)), some (va_rf (a2)), some (.int (a3)), some (.long (a4)), none, none, none, none, none], [.long (s0)], h) = some (some (.int (r.1)), r.2) := by
  unfold p179_j24 at hp
  refine e_lstore (ls2 := [some (.ref (32)), some (va_rf (a0)), some (va_rf (a1)), some (va_rf (a2)), some (.int (a3)), some (.long (a4)), none, some (.long (s0)), none, none, none]) f179_24 (Nat.le_of_ble_eq_true rfl) rfl ?_
  refine e_qload_n f179_26 rfl ?_
  obtain ⟨o8, ho9, hp⟩ := bind_some hp
  try dsimp only at hp
  rw [ho9]
  by_cases hg10 : hT (h) (o8) = 9
  rotate_left
  · rw [if_neg hg10] at hp; cases hp
  rw [if_pos hg10] at hp
  refine e_getQ f179_27 hg10 rfl ?_
  refine e_iload f179_30 rfl ?_
  obtain ⟨o11, ho12, hp⟩ := bind_some hp
  try dsimp only at hp
  rw [ho12]
  by_cases hg13 : hT (h) (o11) = 23
  rotate_left
  · rw [if_neg hg13] at hp; cases hp
  rw [if_pos hg13] at hp
  by_cases hg14 : (a3) < (0 : Int32) ∨ hN (h) (o11) ≤ (a3).toNatClampNeg
  · rw [if_pos hg14] at hp; cases hp
  rw [if_neg hg14] at hp
  refine e_laload f179_32 hg13 rfl hg14 ?_
  refine e_lload f179_33 rfl ?_
  refine e_ldc2 (v := -1) f179_35 (by decide) ?_
  refine e_lxor f179_38 ?_
  refine e_land f179_39 ?_
  refine e_lstore (ls2 := [some (.ref (32)), some (va_rf (a0)), some (va_rf (a1)), some (.ref (o8)), some (.int (a3)), some (.long (a4)), none, some (.long (s0)), none, some (.long ((hL (h) (o11) (a3).toNatClampNeg) &&& ((s0) ^^^ ((-1 : Int64))))), none]) f179_40 (Nat.le_of_ble_eq_true rfl) rfl ?_
  refine e_aload_n f179_42 rfl ?_
  refine e_qload_n f179_43 rfl ?_
  refine e_aload_n f179_44 rfl ?_
  obtain ⟨r15, hr16, hp⟩ := bind_some hp
  try dsimp only at hp
  refine e_callV (st := []) (o := 32) (as := [va_rf (a1), .ref (o8)]) f179_45 (by decide) rfl rfl (Nat.le_of_ble_eq_true rfl) (WF.t w 32 (by decide)) (by cases (a1) <;> exact Nat.le_of_ble_eq_true rfl) (p178_ok (d + 1) F (h) w (a1) (some (o8)) r15 hr16) ?_
  show ex _ 179 (48, [some (.ref (32)), some (va_rf (a0)), some (va_rf (a1)), some (.ref (o8)), some (.int (a3)), some (.long (a4)), none, some (.long (s0)), none, some (.long ((hL (h) (o11) (a3).toNatClampNeg) &&& ((s0) ^^^ ((-1 : Int64))))), none], [], r15) = _
  refine e_aload_n f179_48 rfl ?_
  refine e_getR f179_49 (WF.t (p178_w F (h) w (a1) (some (o8))  r15 hr16) 32 (by decide)) rfl (WF.r (q := 85) (p178_w F (h) w (a1) (some (o8))  r15 hr16) 32 15 (by decide)) ?_
  refine e_iconst (v := 0) f179_52 (by decide) ?_
  refine e_aload_n f179_53 rfl ?_
  by_cases hg17 : hT (r15) (o8) = 9
  rotate_left
  · rw [if_neg hg17] at hp; cases hp
  rw [if_pos hg17] at hp
  refine e_getQ f179_54 hg17 rfl ?_
  refine e_iload f179_57 rfl ?_
  obtain ⟨o18, ho19, hp⟩ := bind_some hp
  try dsimp only at hp
  rw [ho19]
  by_cases hg20 : hT (r15) (o18) = 23
  rotate_left
  · rw [if_neg hg20] at hp; cases hp
  rw [if_pos hg20] at hp
  by_cases hg21 : (a3) < (0 : Int32) ∨ hN (r15) (o18) ≤ (a3).toNatClampNeg
  · rw [if_pos hg21] at hp; cases hp
  rw [if_neg hg21] at hp
  refine e_laload f179_59 hg20 rfl hg21 ?_
  refine e_lload f179_60 rfl ?_
  refine e_land f179_62 ?_
  refine e_lconst (v := 0) f179_63 (by decide) ?_
  refine e_lcmp f179_64 ?_
  by_cases hc22 : (lg_cmp ((hL (r15) (o18) (a3).toNatClampNeg) &&& (s0)) ((0 : Int64))) = (0 : Int32)
  · rw [if_pos hc22] at hp
    refine e_if_eq_t f179_65 hc22 ?_
    refine e_lconst (v := 0) f179_72 (by decide) ?_
    refine ex_weak (ls := [some (.ref (32)), some (va_rf (a0)), none, none, none, some (.long (a4)), none, none, none, some (.long ((hL (h) (o11) (a3).toNatClampNeg) &&& ((s0) ^^^ ((-1 : Int64))))), none]) (le2_ok ⟨Or.inr rfl, Or.inr rfl, Or.inl rfl, Or.inl rfl, Or.inl rfl, Or.inr rfl, Or.inl rfl, Or.inl rfl, Or.inl rfl, Or.inr rfl, Or.inl rfl, trivial⟩) ?_
    exact p179_j73_ok d F a0 a1 a2 a3 a4 (r15) ((p178_w F (h) w (a1) (some (o8))  r15 hr16)) ((hL (h) (o11) (a3).toNatClampNeg) &&& ((s0) ^^^ ((-1 : Int64)))) ((0 : Int64)) (0) _ hp
  · rw [if_neg hc22] at hp
    refine e_if_eq_f f179_65 hc22 ?_
    refine e_lconst (v := 1) f179_68 (by decide) ?_
    refine e_goto f179_69 ?_
    refine ex_weak (ls := [some (.ref (32)), some (va_rf (a0)), none, none, none, some (.long (a4)), none, none, none, some (.long ((hL (h) (o11) (a3).toNatClampNeg) &&& ((s0) ^^^ ((-1 : Int64))))), none]) (le2_ok ⟨Or.inr rfl, Or.inr rfl, Or.inl rfl, Or.inl rfl, Or.inl rfl, Or.inr rfl, Or.inl rfl, Or.inl rfl, Or.inl rfl, Or.inr rfl, Or.inl rfl, trivial⟩) ?_
    exact p179_j73_ok d F a0 a1 a2 a3 a4 (r15) ((p178_w F (h) w (a1) (some (o8))  r15 hr16)) ((hL (h) (o11) (a3).toNatClampNeg) &&& ((s0) ^^^ ((-1 : Int64)))) ((1 : Int64)) (0) _ hp
set_option maxRecDepth 100000 in
set_option maxHeartbeats 4000000 in
theorem p179_j24_w (F : Nat) (a0 : Option Nat) (a1 : Option Nat) (a2 : Option Nat) (a3 : Int32) (a4 : Int64) (h : HS) (w : WF h) (s0 : Int64) (r : Int32 × HS) (hp : p179_j24 F a0 a1 a2 a3 a4 h s0 = some r) : WF r.2 := by
  unfold p179_j24 at hp
  obtain ⟨o8, ho9, hp⟩ := bind_some hp
  try dsimp only at hp
  by_cases hg10 : hT (h) (o8) = 9
  rotate_left
  · rw [if_neg hg10] at hp; cases hp
  rw [if_pos hg10] at hp
  obtain ⟨o11, ho12, hp⟩ := bind_some hp
  try dsimp only at hp
  by_cases hg13 : hT (h) (o11) = 23
  rotate_left
  · rw [if_neg hg13] at hp; cases hp
  rw [if_pos hg13] at hp
  by_cases hg14 : (a3) < (0 : Int32) ∨ hN (h) (o11) ≤ (a3).toNatClampNeg
  · rw [if_pos hg14] at hp; cases hp
  rw [if_neg hg14] at hp
  obtain ⟨r15, hr16, hp⟩ := bind_some hp
  try dsimp only at hp
  by_cases hg17 : hT (r15) (o8) = 9
  rotate_left
  · rw [if_neg hg17] at hp; cases hp
  rw [if_pos hg17] at hp
  obtain ⟨o18, ho19, hp⟩ := bind_some hp
  try dsimp only at hp
  by_cases hg20 : hT (r15) (o18) = 23
  rotate_left
  · rw [if_neg hg20] at hp; cases hp
  rw [if_pos hg20] at hp
  by_cases hg21 : (a3) < (0 : Int32) ∨ hN (r15) (o18) ≤ (a3).toNatClampNeg
  · rw [if_pos hg21] at hp; cases hp
  rw [if_neg hg21] at hp
  by_cases hc22 : (lg_cmp ((hL (r15) (o18) (a3).toNatClampNeg) &&& (s0)) ((0 : Int64))) = (0 : Int32)
  · rw [if_pos hc22] at hp
    exact p179_j73_w F a0 a1 a2 a3 a4 (r15) ((p178_w F (h) w (a1) (some (o8))  r15 hr16)) ((hL (h) (o11) (a3).toNatClampNeg) &&& ((s0) ^^^ ((-1 : Int64)))) ((0 : Int64)) (0) _ hp
  · rw [if_neg hc22] at hp
    exact p179_j73_w F a0 a1 a2 a3 a4 (r15) ((p178_w F (h) w (a1) (some (o8))  r15 hr16)) ((hL (h) (o11) (a3).toNatClampNeg) &&& ((s0) ^^^ ((-1 : Int64)))) ((1 : Int64)) (0) _ hp
set_option maxRecDepth 100000 in
set_option maxHeartbeats 4000000 in
theorem p179_ok (d : Nat) (F : Nat) (h : HS) (w : WF h) (a0 : Option Nat) (a1 : Option Nat) (a2 : Option Nat) (a3 : Int32) (a4 : Int64) (r : Int32 × HS) (hp : p179 F h a0 a1 a2 a3 a4 = some r) : ex (d + 3) 179 (ent 179 [.ref (32), va_rf (a0), va_rf (a1), va_rf (a2), .int (a3), .long (a4)] h) = some (some (.int (r.1)), r.2) := by
  rw [show ent 179 [.ref (32), va_rf (a0), va_rf (a1), va_rf (a2), .int (a3), .long (a4)] h = (0, [some (.ref (32)), some (va_rf (a0)), some (va_rf (a1)), some (va_rf (a2)), some (.int (a3)), some (.long (a4)), none, none, none, none, none], [], h) from by cases a0 <;> cases a1 <;> cases a2 <;> rfl]
  refine ex_weak (ls := [some (.ref (32)), some (va_rf (a0)), some (va_rf (a1)), some (va_rf (a2)), some (.int (a3)), some (.long (a4)), none, none, none, none, none]) (le2_ok ⟨Or.inr rfl, Or.inr rfl, Or.inr rfl, Or.inr rfl, Or.inr rfl, Or.inr rfl, Or.inr rfl, Or.inr rfl, Or.inr rfl, Or.inr rfl, Or.inr rfl, trivial⟩) ?_
  unfold p179 at hp
  refine e_qload_n f179_0 rfl ?_
  by_cases hc1 : (a0) = none
  · rw [if_pos hc1] at hp
    rw [hc1]
    refine e_ifnonnull_f f179_1 ?_
    refine e_iconst (v := -1) f179_4 (by decide) ?_
    have hp := Option.some.inj hp
    subst hp
    exact e_ireturn f179_5 (Or.inl rfl)
  · rw [if_neg hc1] at hp
    obtain ⟨o2, ho3, hp⟩ := bind_some hp
    try dsimp only at hp
    rw [ho3]
    refine e_ifnonnull_t f179_1 ?_
    refine e_qload_n f179_6 rfl ?_
    obtain ⟨o4, ho5, hp⟩ := bind_some hp
    try dsimp only at hp
    rw [ho5]
    by_cases hg6 : hT (h) (o4) = 6
    rotate_left
    · rw [if_neg hg6] at hp; cases hp
    rw [if_pos hg6] at hp
    refine e_getI f179_7 hg6 (by decide) ?_
    refine e_iconst (v := -1) f179_10 (by decide) ?_
    by_cases hc7 : (hI (h) (o4) 0) = (((-1)) : Int32)
    · rw [if_pos hc7] at hp
      refine e_icmp_ne_f f179_11 hc7 ?_
      refine e_lconst (v := 0) f179_14 (by decide) ?_
      refine e_goto f179_15 ?_
      refine ex_weak (ls := [some (.ref (32)), some (va_rf (a0)), some (va_rf (a1)), some (va_rf (a2)), some (.int (a3)), some (.long (a4)), none, none, none, none, none]) (le2_ok ⟨Or.inr rfl, Or.inr (congrArg (fun z => some (va_rf z)) ho3), Or.inr (congrArg (fun z => some (va_rf z)) ho5), Or.inr rfl, Or.inr rfl, Or.inr rfl, Or.inl rfl, Or.inl rfl, Or.inl rfl, Or.inl rfl, Or.inl rfl, trivial⟩) ?_
      exact p179_j24_ok d F a0 a1 a2 a3 a4 (h) (w) ((0 : Int64)) _ hp
    · rw [if_neg hc7] at hp
      refine e_icmp_ne_t f179_11 hc7 ?_
      refine e_lconst (v := 1) f179_18 (by decide) ?_
      refine e_aload_n f179_19 rfl ?_
      refine e_getI f179_20 hg6 (by decide) ?_
      refine e_lshl f179_23 ?_
      refine ex_weak (ls := [some (.ref (32)), some (va_rf (a0)), some (va_rf (a1)), some (va_rf (a2)), some (.int (a3)), some (.long (a4)), none, none, none, none, none]) (le2_ok ⟨Or.inr rfl, Or.inr (congrArg (fun z => some (va_rf z)) ho3), Or.inr (congrArg (fun z => some (va_rf z)) ho5), Or.inr rfl, Or.inr rfl, Or.inr rfl, Or.inl rfl, Or.inl rfl, Or.inl rfl, Or.inl rfl, Or.inl rfl, trivial⟩) ?_
      exact p179_j24_ok d F a0 a1 a2 a3 a4 (h) (w) (((1 : Int64)) <<< ((hI (h) (o4) 0).toInt64 &&& 63)) _ hp
set_option maxRecDepth 100000 in
set_option maxHeartbeats 4000000 in
theorem p179_w (F : Nat) (h : HS) (w : WF h) (a0 : Option Nat) (a1 : Option Nat) (a2 : Option Nat) (a3 : Int32) (a4 : Int64) (r : Int32 × HS) (hp : p179 F h a0 a1 a2 a3 a4 = some r) : WF r.2 := by
  unfold p179 at hp
  by_cases hc1 : (a0) = none
  · rw [if_pos hc1] at hp
    have hp := Option.some.inj hp
    subst hp
    exact (w)
  · rw [if_neg hc1] at hp
    obtain ⟨o2, ho3, hp⟩ := bind_some hp
    try dsimp only at hp
    obtain ⟨o4, ho5, hp⟩ := bind_some hp
    try dsimp only at hp
    by_cases hg6 : hT (h) (o4) = 6
    rotate_left
    · rw [if_neg hg6] at hp; cases hp
    rw [if_pos hg6] at hp
    by_cases hc7 : (hI (h) (o4) 0) = (((-1)) : Int32)
    · rw [if_pos hc7] at hp
      exact p179_j24_w F a0 a1 a2 a3 a4 (h) (w) ((0 : Int64)) _ hp
    · rw [if_neg hc7] at hp
      exact p179_j24_w F a0 a1 a2 a3 a4 (h) (w) (((1 : Int64)) <<< ((hI (h) (o4) 0).toInt64 &&& 63)) _ hp
theorem f180_0 : fetch 180 0 = some (.aload_n 0, 0, 0, 0) := rfl
theorem f180_1 : fetch 180 1 = some (.ifnull 8, 9, 0, 0) := rfl
theorem f180_4 : fetch 180 4 = some (.iload_n 1, 0, 0, 0) := rfl
theorem f180_5 : fetch 180 5 = some (.iconst (-1), 0, 0, 0) := rfl
theorem f180_6 : fetch 180 6 = some (.if_icmp .ne 7, 13, 0, 0) := rfl
theorem f180_9 : fetch 180 9 = some (.iconst 2, 0, 0, 0) := rfl
theorem f180_10 : fetch 180 10 = some (.goto 9, 19, 0, 0) := rfl
theorem f180_13 : fetch 180 13 = some (.aload_n 0, 0, 0, 0) := rfl
theorem f180_14 : fetch 180 14 = some (.getfield 507, 1, 2, 2) := rfl
theorem f180_17 : fetch 180 17 = some (.iload_n 1, 0, 0, 0) := rfl
theorem f180_18 : fetch 180 18 = some (.iaload, 0, 0, 0) := rfl
theorem f180_19 : fetch 180 19 = some (.ireturn, 0, 0, 0) := rfl
set_option maxRecDepth 100000 in
set_option maxHeartbeats 4000000 in
theorem p180_ok (d : Nat) (h : HS) (w : WF h) (a0 : Option Nat) (a1 : Int32) (r : Int32) (hp : p180 h a0 a1 = some r) : ex (d + 0) 180 (ent 180 [va_rf (a0), .int (a1)] h) = some (some (.int (r)), h) := by
  rw [show ent 180 [va_rf (a0), .int (a1)] h = (0, [some (va_rf (a0)), some (.int (a1))], [], h) from by cases a0 <;> rfl]
  refine ex_weak (ls := [some (va_rf (a0)), some (.int (a1))]) (le2_ok ⟨Or.inr rfl, Or.inr rfl, trivial⟩) ?_
  unfold p180 at hp
  refine e_qload_n f180_0 rfl ?_
  by_cases hc1 : (a0) = none
  · rw [if_pos hc1] at hp
    rw [hc1]
    refine e_ifnull_t f180_1 ?_
    refine e_iconst (v := 2) f180_9 (by decide) ?_
    refine e_goto f180_10 ?_
    have hp := Option.some.inj hp
    subst hp
    exact e_ireturn f180_19 (Or.inl rfl)
  · rw [if_neg hc1] at hp
    obtain ⟨o2, ho3, hp⟩ := bind_some hp
    try dsimp only at hp
    rw [ho3]
    refine e_ifnull_f f180_1 ?_
    refine e_iload_n f180_4 rfl ?_
    refine e_iconst (v := -1) f180_5 (by decide) ?_
    by_cases hc4 : (a1) = (((-1)) : Int32)
    · rw [if_pos hc4] at hp
      refine e_icmp_ne_f f180_6 hc4 ?_
      refine e_iconst (v := 2) f180_9 (by decide) ?_
      refine e_goto f180_10 ?_
      have hp := Option.some.inj hp
      subst hp
      exact e_ireturn f180_19 (Or.inl rfl)
    · rw [if_neg hc4] at hp
      refine e_icmp_ne_t f180_6 hc4 ?_
      refine e_aload_n f180_13 rfl ?_
      by_cases hg5 : hT (h) (o2) = 1
      rotate_left
      · rw [if_neg hg5] at hp; cases hp
      rw [if_pos hg5] at hp
      refine e_getQ f180_14 hg5 rfl ?_
      refine e_iload_n f180_17 rfl ?_
      obtain ⟨o6, ho7, hp⟩ := bind_some hp
      try dsimp only at hp
      rw [ho7]
      by_cases hg8 : hT (h) (o6) = 20
      rotate_left
      · rw [if_neg hg8] at hp; cases hp
      rw [if_pos hg8] at hp
      by_cases hg9 : (a1) < (0 : Int32) ∨ hN (h) (o6) ≤ (a1).toNatClampNeg
      · rw [if_pos hg9] at hp; cases hp
      rw [if_neg hg9] at hp
      refine e_iaload f180_18 (Or.inl hg8) rfl hg9 ?_
      have hp := Option.some.inj hp
      subst hp
      exact e_ireturn f180_19 (Or.inl rfl)
theorem f148_0 : fetch 148 0 = some (.aload_n 0, 0, 0, 0) := rfl
theorem f148_1 : fetch 148 1 = some (.iload_n 2, 0, 0, 0) := rfl
theorem f148_2 : fetch 148 2 = some (.invokevirtual 158, 171, 1, 0) := rfl
theorem f148_5 : fetch 148 5 = some (.astore 4, 0, 0, 0) := rfl
theorem f148_7 : fetch 148 7 = some (.aload_n 0, 0, 0, 0) := rfl
theorem f148_8 : fetch 148 8 = some (.iload_n 1, 0, 0, 0) := rfl
theorem f148_9 : fetch 148 9 = some (.invokevirtual 354, 173, 1, 0) := rfl
theorem f148_12 : fetch 148 12 = some (.ifCond .eq 17, 29, 0, 0) := rfl
theorem f148_15 : fetch 148 15 = some (.aload 4, 0, 0, 0) := rfl
theorem f148_17 : fetch 148 17 = some (.ifnull 12, 29, 0, 0) := rfl
theorem f148_20 : fetch 148 20 = some (.aload 4, 0, 0, 0) := rfl
theorem f148_22 : fetch 148 22 = some (.iload_n 3, 0, 0, 0) := rfl
theorem f148_23 : fetch 148 23 = some (.invokevirtual 357, 95, 1, 0) := rfl
theorem f148_26 : fetch 148 26 = some (.ifCond .ne 5, 31, 0, 0) := rfl
theorem f148_29 : fetch 148 29 = some (.iconst (-1), 0, 0, 0) := rfl
theorem f148_30 : fetch 148 30 = some (.ireturn, 0, 0, 0) := rfl
theorem f148_31 : fetch 148 31 = some (.aload_n 0, 0, 0, 0) := rfl
theorem f148_32 : fetch 148 32 = some (.aload_n 0, 0, 0, 0) := rfl
theorem f148_33 : fetch 148 33 = some (.getfield 88, 11, 0, 0) := rfl
theorem f148_36 : fetch 148 36 = some (.invokevirtual 360, 176, 1, 0) := rfl
theorem f148_39 : fetch 148 39 = some (.astore 5, 0, 0, 0) := rfl
theorem f148_41 : fetch 148 41 = some (.aload_n 0, 0, 0, 0) := rfl
theorem f148_42 : fetch 148 42 = some (.aload_n 0, 0, 0, 0) := rfl
theorem f148_43 : fetch 148 43 = some (.aload 5, 0, 0, 0) := rfl
theorem f148_45 : fetch 148 45 = some (.aload_n 0, 0, 0, 0) := rfl
theorem f148_46 : fetch 148 46 = some (.getfield 66, 11, 12, 2) := rfl
theorem f148_49 : fetch 148 49 = some (.iload_n 1, 0, 0, 0) := rfl
theorem f148_50 : fetch 148 50 = some (.aaload, 0, 0, 0) := rfl
theorem f148_51 : fetch 148 51 = some (.aload 4, 0, 0, 0) := rfl
theorem f148_53 : fetch 148 53 = some (.iload_n 3, 0, 0, 0) := rfl
theorem f148_54 : fetch 148 54 = some (.aload_n 0, 0, 0, 0) := rfl
theorem f148_55 : fetch 148 55 = some (.aload 5, 0, 0, 0) := rfl
theorem f148_57 : fetch 148 57 = some (.invokevirtual 364, 177, 1, 0) := rfl
theorem f148_60 : fetch 148 60 = some (.invokevirtual 368, 179, 5, 0) := rfl
theorem f148_63 : fetch 148 63 = some (.putfield 9, 11, 1, 0) := rfl
theorem f148_66 : fetch 148 66 = some (.aload 5, 0, 0, 0) := rfl
theorem f148_68 : fetch 148 68 = some (.aload_n 0, 0, 0, 0) := rfl
theorem f148_69 : fetch 148 69 = some (.getfield 9, 11, 1, 0) := rfl
theorem f148_72 : fetch 148 72 = some (.invokestatic 372, 180, 2, 1) := rfl
theorem f148_75 : fetch 148 75 = some (.ireturn, 0, 0, 0) := rfl
set_option maxRecDepth 100000 in
set_option maxHeartbeats 4000000 in
theorem p148_ok (d : Nat) (F : Nat) (h : HS) (w : WF h) (a0 : Int32) (a1 : Int32) (a2 : Int32) (r : Int32 × HS) (hp : p148 F h a0 a1 a2 = some r) : ex (d + 6) 148 (ent 148 [.ref (32), .int (a0), .int (a1), .int (a2)] h) = some (some (.int (r.1)), r.2) := by
  rw [show ent 148 [.ref (32), .int (a0), .int (a1), .int (a2)] h = (0, [some (.ref (32)), some (.int (a0)), some (.int (a1)), some (.int (a2)), none, none], [], h) from by  rfl]
  refine ex_weak (ls := [some (.ref (32)), some (.int (a0)), some (.int (a1)), some (.int (a2)), none, none]) (le2_ok ⟨Or.inr rfl, Or.inr rfl, Or.inr rfl, Or.inr rfl, Or.inr rfl, Or.inr rfl, trivial⟩) ?_
  unfold p148 at hp
  refine e_aload_n f148_0 rfl ?_
  refine e_iload_n f148_1 rfl ?_
  obtain ⟨r1, hr2, hp⟩ := bind_some hp
  try dsimp only at hp
  refine e_callV (st := []) (o := 32) (as := [.int (a1)]) f148_2 (by decide) rfl rfl (Nat.le_of_ble_eq_true rfl) (WF.t w 32 (by decide)) (Nat.le_of_ble_eq_true rfl) (p171_ok (d + 3) (h) w (a1) r1 hr2) ?_
  show ex _ 148 (5, [some (.ref (32)), some (.int (a0)), some (.int (a1)), some (.int (a2)), none, none], [va_rf (r1)], h) = _
  refine e_qstore (ls2 := [some (.ref (32)), some (.int (a0)), some (.int (a1)), some (.int (a2)), some (va_rf (r1)), none]) f148_5 (Nat.le_of_ble_eq_true rfl) rfl ?_
  refine e_aload_n f148_7 rfl ?_
  refine e_iload_n f148_8 rfl ?_
  obtain ⟨r3, hr4, hp⟩ := bind_some hp
  try dsimp only at hp
  refine e_callV (st := []) (o := 32) (as := [.int (a0)]) f148_9 (by decide) rfl rfl (Nat.le_of_ble_eq_true rfl) (WF.t w 32 (by decide)) (Nat.le_of_ble_eq_true rfl) (p173_ok (d + 4) (h) w (a0) r3 hr4) ?_
  show ex _ 148 (12, [some (.ref (32)), some (.int (a0)), some (.int (a1)), some (.int (a2)), some (va_rf (r1)), none], [.int (r3)], h) = _
  by_cases hc5 : (r3) = (0 : Int32)
  · rw [if_pos hc5] at hp
    refine e_if_eq_t f148_12 hc5 ?_
    refine e_iconst (v := -1) f148_29 (by decide) ?_
    have hp := Option.some.inj hp
    subst hp
    exact e_ireturn f148_30 (Or.inl rfl)
  · rw [if_neg hc5] at hp
    refine e_if_eq_f f148_12 hc5 ?_
    refine e_qload f148_15 rfl ?_
    by_cases hc6 : (r1) = none
    · rw [if_pos hc6] at hp
      rw [hc6]
      refine e_ifnull_t f148_17 ?_
      refine e_iconst (v := -1) f148_29 (by decide) ?_
      have hp := Option.some.inj hp
      subst hp
      exact e_ireturn f148_30 (Or.inl rfl)
    · rw [if_neg hc6] at hp
      obtain ⟨o7, ho8, hp⟩ := bind_some hp
      try dsimp only at hp
      rw [ho8]
      refine e_ifnull_f f148_17 ?_
      refine e_aload f148_20 rfl ?_
      refine e_iload_n f148_22 rfl ?_
      by_cases hg9 : hT (h) (o7) = 9
      rotate_left
      · rw [if_neg hg9] at hp; cases hp
      rw [if_pos hg9] at hp
      obtain ⟨r10, hr11, hp⟩ := bind_some hp
      try dsimp only at hp
      refine e_callV (st := []) (o := o7) (as := [.int (a2)]) f148_23 (by decide) rfl rfl (Nat.le_of_ble_eq_true rfl) hg9 (Nat.le_of_ble_eq_true rfl) (p95_ok (d + 4) (h) w (o7) (a2) hg9 r10 hr11) ?_
      show ex _ 148 (26, [some (.ref (32)), some (.int (a0)), some (.int (a1)), some (.int (a2)), some (.ref (o7)), none], [.int (r10)], h) = _
      by_cases hc12 : (r10) = (0 : Int32)
      · rw [if_pos hc12] at hp
        refine e_if_ne_f f148_26 hc12 ?_
        refine e_iconst (v := -1) f148_29 (by decide) ?_
        have hp := Option.some.inj hp
        subst hp
        exact e_ireturn f148_30 (Or.inl rfl)
      · rw [if_neg hc12] at hp
        refine e_if_ne_t f148_26 hc12 ?_
        refine e_aload_n f148_31 rfl ?_
        refine e_aload_n f148_32 rfl ?_
        refine e_getI f148_33 (WF.t w 32 (by decide)) (by decide) ?_
        obtain ⟨r13, hr14, hp⟩ := bind_some hp
        try dsimp only at hp
        refine e_callV (st := []) (o := 32) (as := [.int (hI (h) (32) 0)]) f148_36 (by decide) rfl rfl (Nat.le_of_ble_eq_true rfl) (WF.t w 32 (by decide)) (Nat.le_of_ble_eq_true rfl) (p176_ok (d + 4) F (h) w (hI (h) (32) 0) r13 hr14) ?_
        show ex _ 148 (39, [some (.ref (32)), some (.int (a0)), some (.int (a1)), some (.int (a2)), some (.ref (o7)), none], [va_rf (r13)], h) = _
        refine e_qstore (ls2 := [some (.ref (32)), some (.int (a0)), some (.int (a1)), some (.int (a2)), some (.ref (o7)), some (va_rf (r13))]) f148_39 (Nat.le_of_ble_eq_true rfl) rfl ?_
        refine e_aload_n f148_41 rfl ?_
        refine e_aload_n f148_42 rfl ?_
        refine e_qload f148_43 rfl ?_
        refine e_aload_n f148_45 rfl ?_
        refine e_getR f148_46 (WF.t w 32 (by decide)) rfl (WF.r (q := 67) w 32 12 (by decide)) ?_
        refine e_iload_n f148_49 rfl ?_
        by_cases hg15 : (a0) < (0 : Int32) ∨ 30 ≤ (a0).toNatClampNeg
        · rw [if_pos hg15] at hp; cases hp
        rw [if_neg hg15] at hp
        refine e_aaload f148_50 (Or.inr (Or.inr (Or.inl (WF.t w 67 (by decide))))) (WF.n w 67 (by decide)) hg15 ?_
        refine e_aload f148_51 rfl ?_
        refine e_iload_n f148_53 rfl ?_
        refine e_aload_n f148_54 rfl ?_
        refine e_qload f148_55 rfl ?_
        obtain ⟨r16, hr17, hp⟩ := bind_some hp
        try dsimp only at hp
        refine e_callV8 (st := [.int (a2), .ref (o7), va_rf (hR (h) (67) (a0).toNatClampNeg), va_rf (r13), .ref (32), .ref (32)]) (o := 32) (as := [va_rf (r13)]) f148_57 (by decide) rfl rfl (by cases (hR (h) (67) (a0).toNatClampNeg) <;> cases (r13) <;> rfl) (WF.t w 32 (by decide)) (by cases (r13) <;> exact Nat.le_of_ble_eq_true rfl) (p177_ok d F (h) w (r13) r16 hr17) ?_
        show ex _ 148 (60, [some (.ref (32)), some (.int (a0)), some (.int (a1)), some (.int (a2)), some (.ref (o7)), some (va_rf (r13))], [.long (r16), .int (a2), .ref (o7), va_rf (hR (h) (67) (a0).toNatClampNeg), va_rf (r13), .ref (32), .ref (32)], h) = _
        obtain ⟨r18, hr19, hp⟩ := bind_some hp
        try dsimp only at hp
        refine e_callV (st := [.ref (32)]) (o := 32) (as := [va_rf (r13), va_rf (hR (h) (67) (a0).toNatClampNeg), .ref (o7), .int (a2), .long (r16)]) f148_60 (by decide) rfl rfl (Nat.le_of_ble_eq_true rfl) (WF.t w 32 (by decide)) (by cases (r13) <;> cases (hR (h) (67) (a0).toNatClampNeg) <;> exact Nat.le_of_ble_eq_true rfl) (p179_ok (d + 2) F (h) w (r13) (hR (h) (67) (a0).toNatClampNeg) (some (o7)) (a2) (r16) r18 hr19) ?_
        show ex _ 148 (63, [some (.ref (32)), some (.int (a0)), some (.int (a1)), some (.int (a2)), some (.ref (o7)), some (va_rf (r13))], [.int (r18.1), .ref (32)], r18.2) = _
        refine e_putI f148_63 (WF.t (p179_w F (h) w (r13) (hR (h) (67) (a0).toNatClampNeg) (some (o7)) (a2) (r16)  r18 hr19) 32 (by decide)) rfl ?_
        refine e_qload f148_66 rfl ?_
        refine e_aload_n f148_68 rfl ?_
        refine e_getI f148_69 (WF.t (p179_w F (h) w (r13) (hR (h) (67) (a0).toNatClampNeg) (some (o7)) (a2) (r16)  r18 hr19) 32 (by decide)) (by decide) ?_
        obtain ⟨r20, hr21, hp⟩ := bind_some hp
        try dsimp only at hp
        refine e_callS (st := []) (as := [va_rf (r13), .int (hI (hsI (r18.2) (32) 1 (r18.1)) (32) 1)]) f148_72 (by decide) rfl rfl (Nat.le_of_ble_eq_true rfl) (by cases (r13) <;> exact Nat.le_of_ble_eq_true rfl) (p180_ok (d + 5) (hsI (r18.2) (32) 1 (r18.1)) (p179_w F (h) w (r13) (hR (h) (67) (a0).toNatClampNeg) (some (o7)) (a2) (r16)  r18 hr19) (r13) (hI (hsI (r18.2) (32) 1 (r18.1)) (32) 1) r20 hr21) ?_
        show ex _ 148 (75, [some (.ref (32)), some (.int (a0)), some (.int (a1)), some (.int (a2)), some (.ref (o7)), some (va_rf (r13))], [.int (r20)], hsI (r18.2) (32) 1 (r18.1)) = _
        have hp := Option.some.inj hp
        subst hp
        exact e_ireturn f148_75 (Or.inl rfl)
set_option maxRecDepth 100000 in
set_option maxHeartbeats 4000000 in
theorem p148_w (F : Nat) (h : HS) (w : WF h) (a0 : Int32) (a1 : Int32) (a2 : Int32) (r : Int32 × HS) (hp : p148 F h a0 a1 a2 = some r) : WF r.2 := by
  unfold p148 at hp
  obtain ⟨r1, hr2, hp⟩ := bind_some hp
  try dsimp only at hp
  obtain ⟨r3, hr4, hp⟩ := bind_some hp
  try dsimp only at hp
  by_cases hc5 : (r3) = (0 : Int32)
  · rw [if_pos hc5] at hp
    have hp := Option.some.inj hp
    subst hp
    exact (w)
  · rw [if_neg hc5] at hp
    by_cases hc6 : (r1) = none
    · rw [if_pos hc6] at hp
      have hp := Option.some.inj hp
      subst hp
      exact (w)
    · rw [if_neg hc6] at hp
      obtain ⟨o7, ho8, hp⟩ := bind_some hp
      try dsimp only at hp
      by_cases hg9 : hT (h) (o7) = 9
      rotate_left
      · rw [if_neg hg9] at hp; cases hp
      rw [if_pos hg9] at hp
      obtain ⟨r10, hr11, hp⟩ := bind_some hp
      try dsimp only at hp
      by_cases hc12 : (r10) = (0 : Int32)
      · rw [if_pos hc12] at hp
        have hp := Option.some.inj hp
        subst hp
        exact (w)
      · rw [if_neg hc12] at hp
        obtain ⟨r13, hr14, hp⟩ := bind_some hp
        try dsimp only at hp
        by_cases hg15 : (a0) < (0 : Int32) ∨ 30 ≤ (a0).toNatClampNeg
        · rw [if_pos hg15] at hp; cases hp
        rw [if_neg hg15] at hp
        obtain ⟨r16, hr17, hp⟩ := bind_some hp
        try dsimp only at hp
        obtain ⟨r18, hr19, hp⟩ := bind_some hp
        try dsimp only at hp
        obtain ⟨r20, hr21, hp⟩ := bind_some hp
        try dsimp only at hp
        have hp := Option.some.inj hp
        subst hp
        exact ((p179_w F (h) w (r13) (hR (h) (67) (a0).toNatClampNeg) (some (o7)) (a2) (r16)  r18 hr19))
theorem f149_0 : fetch 149 0 = some (.aload_n 0, 0, 0, 0) := rfl
theorem f149_1 : fetch 149 1 = some (.getfield 9, 11, 1, 0) := rfl
theorem f149_4 : fetch 149 4 = some (.ireturn, 0, 0, 0) := rfl
set_option maxRecDepth 100000 in
set_option maxHeartbeats 4000000 in
theorem p149_ok (d : Nat) (h : HS) (w : WF h) (r : Int32) (hp : p149 h = some r) : ex (d + 0) 149 (ent 149 [.ref (32)] h) = some (some (.int (r)), h) := by
  rw [show ent 149 [.ref (32)] h = (0, [some (.ref (32))], [], h) from by  rfl]
  refine ex_weak (ls := [some (.ref (32))]) (le2_ok ⟨Or.inr rfl, trivial⟩) ?_
  unfold p149 at hp
  refine e_aload_n f149_0 rfl ?_
  refine e_getI f149_1 (WF.t w 32 (by decide)) (by decide) ?_
  have hp := Option.some.inj hp
  subst hp
  exact e_ireturn f149_4 (Or.inl rfl)
theorem f150_0 : fetch 150 0 = some (.aload_n 0, 0, 0, 0) := rfl
theorem f150_1 : fetch 150 1 = some (.iload_n 2, 0, 0, 0) := rfl
theorem f150_2 : fetch 150 2 = some (.invokevirtual 158, 171, 1, 0) := rfl
theorem f150_5 : fetch 150 5 = some (.astore_n 3, 0, 0, 0) := rfl
theorem f150_6 : fetch 150 6 = some (.aload_n 0, 0, 0, 0) := rfl
theorem f150_7 : fetch 150 7 = some (.iload_n 1, 0, 0, 0) := rfl
theorem f150_8 : fetch 150 8 = some (.invokevirtual 354, 173, 1, 0) := rfl
theorem f150_11 : fetch 150 11 = some (.ifCond .eq 19, 30, 0, 0) := rfl
theorem f150_14 : fetch 150 14 = some (.aload_n 3, 0, 0, 0) := rfl
theorem f150_15 : fetch 150 15 = some (.ifnull 15, 30, 0, 0) := rfl
theorem f150_18 : fetch 150 18 = some (.aload_n 0, 0, 0, 0) := rfl
theorem f150_19 : fetch 150 19 = some (.getfield 66, 11, 12, 2) := rfl
theorem f150_22 : fetch 150 22 = some (.iload_n 1, 0, 0, 0) := rfl
theorem f150_23 : fetch 150 23 = some (.aaload, 0, 0, 0) := rfl
theorem f150_24 : fetch 150 24 = some (.getfield 376, 6, 2, 2) := rfl
theorem f150_27 : fetch 150 27 = some (.ifnull 5, 32, 0, 0) := rfl
theorem f150_30 : fetch 150 30 = some (.iconst 0, 0, 0, 0) := rfl
theorem f150_31 : fetch 150 31 = some (.ireturn, 0, 0, 1) := rfl
theorem f150_32 : fetch 150 32 = some (.aload_n 0, 0, 0, 0) := rfl
theorem f150_33 : fetch 150 33 = some (.getfield 66, 11, 12, 2) := rfl
theorem f150_36 : fetch 150 36 = some (.iload_n 1, 0, 0, 0) := rfl
theorem f150_37 : fetch 150 37 = some (.aaload, 0, 0, 0) := rfl
theorem f150_38 : fetch 150 38 = some (.aload_n 3, 0, 0, 0) := rfl
theorem f150_39 : fetch 150 39 = some (.putfield 376, 6, 2, 2) := rfl
theorem f150_42 : fetch 150 42 = some (.aload_n 0, 0, 0, 0) := rfl
theorem f150_43 : fetch 150 43 = some (.getfield 66, 11, 12, 2) := rfl
theorem f150_46 : fetch 150 46 = some (.iload_n 1, 0, 0, 0) := rfl
theorem f150_47 : fetch 150 47 = some (.aaload, 0, 0, 0) := rfl
theorem f150_48 : fetch 150 48 = some (.aload_n 0, 0, 0, 0) := rfl
theorem f150_49 : fetch 150 49 = some (.getfield 88, 11, 0, 0) := rfl
theorem f150_52 : fetch 150 52 = some (.putfield 380, 6, 3, 0) := rfl
theorem f150_55 : fetch 150 55 = some (.aload_n 0, 0, 0, 0) := rfl
theorem f150_56 : fetch 150 56 = some (.getfield 66, 11, 12, 2) := rfl
theorem f150_59 : fetch 150 59 = some (.iload_n 1, 0, 0, 0) := rfl
theorem f150_60 : fetch 150 60 = some (.aaload, 0, 0, 0) := rfl
theorem f150_61 : fetch 150 61 = some (.dup, 0, 0, 0) := rfl
theorem f150_62 : fetch 150 62 = some (.getfield 383, 6, 4, 0) := rfl
theorem f150_65 : fetch 150 65 = some (.iconst 1, 0, 0, 0) := rfl
theorem f150_66 : fetch 150 66 = some (.iadd, 0, 0, 0) := rfl
theorem f150_67 : fetch 150 67 = some (.putfield 383, 6, 4, 0) := rfl
theorem f150_70 : fetch 150 70 = some (.iconst 1, 0, 0, 0) := rfl
theorem f150_71 : fetch 150 71 = some (.ireturn, 0, 0, 1) := rfl
set_option maxRecDepth 100000 in
set_option maxHeartbeats 4000000 in
theorem p150_ok (d : Nat) (h : HS) (w : WF h) (a0 : Int32) (a1 : Int32) (r : Int32 × HS) (hp : p150 h a0 a1 = some r) : ex (d + 3) 150 (ent 150 [.ref (32), .int (a0), .int (a1)] h) = some (some (.int (r.1)), r.2) := by
  rw [show ent 150 [.ref (32), .int (a0), .int (a1)] h = (0, [some (.ref (32)), some (.int (a0)), some (.int (a1)), none], [], h) from by  rfl]
  refine ex_weak (ls := [some (.ref (32)), some (.int (a0)), some (.int (a1)), none]) (le2_ok ⟨Or.inr rfl, Or.inr rfl, Or.inr rfl, Or.inr rfl, trivial⟩) ?_
  unfold p150 at hp
  refine e_aload_n f150_0 rfl ?_
  refine e_iload_n f150_1 rfl ?_
  obtain ⟨r1, hr2, hp⟩ := bind_some hp
  try dsimp only at hp
  refine e_callV (st := []) (o := 32) (as := [.int (a1)]) f150_2 (by decide) rfl rfl (Nat.le_of_ble_eq_true rfl) (WF.t w 32 (by decide)) (Nat.le_of_ble_eq_true rfl) (p171_ok d (h) w (a1) r1 hr2) ?_
  show ex _ 150 (5, [some (.ref (32)), some (.int (a0)), some (.int (a1)), none], [va_rf (r1)], h) = _
  refine e_qstore_n (ls2 := [some (.ref (32)), some (.int (a0)), some (.int (a1)), some (va_rf (r1))]) f150_5 (Nat.le_of_ble_eq_true rfl) rfl ?_
  refine e_aload_n f150_6 rfl ?_
  refine e_iload_n f150_7 rfl ?_
  obtain ⟨r3, hr4, hp⟩ := bind_some hp
  try dsimp only at hp
  refine e_callV (st := []) (o := 32) (as := [.int (a0)]) f150_8 (by decide) rfl rfl (Nat.le_of_ble_eq_true rfl) (WF.t w 32 (by decide)) (Nat.le_of_ble_eq_true rfl) (p173_ok (d + 1) (h) w (a0) r3 hr4) ?_
  show ex _ 150 (11, [some (.ref (32)), some (.int (a0)), some (.int (a1)), some (va_rf (r1))], [.int (r3)], h) = _
  by_cases hc5 : (r3) = (0 : Int32)
  · rw [if_pos hc5] at hp
    refine e_if_eq_t f150_11 hc5 ?_
    refine e_iconst (v := 0) f150_30 (by decide) ?_
    have hp := Option.some.inj hp
    subst hp
    exact e_ireturn f150_31 (by decide)
  · rw [if_neg hc5] at hp
    refine e_if_eq_f f150_11 hc5 ?_
    refine e_qload_n f150_14 rfl ?_
    by_cases hc6 : (r1) = none
    · rw [if_pos hc6] at hp
      rw [hc6]
      refine e_ifnull_t f150_15 ?_
      refine e_iconst (v := 0) f150_30 (by decide) ?_
      have hp := Option.some.inj hp
      subst hp
      exact e_ireturn f150_31 (by decide)
    · rw [if_neg hc6] at hp
      obtain ⟨o7, ho8, hp⟩ := bind_some hp
      try dsimp only at hp
      rw [ho8]
      refine e_ifnull_f f150_15 ?_
      refine e_aload_n f150_18 rfl ?_
      refine e_getR f150_19 (WF.t w 32 (by decide)) rfl (WF.r (q := 67) w 32 12 (by decide)) ?_
      refine e_iload_n f150_22 rfl ?_
      by_cases hg9 : (a0) < (0 : Int32) ∨ 30 ≤ (a0).toNatClampNeg
      · rw [if_pos hg9] at hp; cases hp
      rw [if_neg hg9] at hp
      refine e_aaload f150_23 (Or.inr (Or.inr (Or.inl (WF.t w 67 (by decide))))) (WF.n w 67 (by decide)) hg9 ?_
      obtain ⟨o10, ho11, hp⟩ := bind_some hp
      try dsimp only at hp
      rw [ho11]
      by_cases hg12 : hT (h) (o10) = 6
      rotate_left
      · rw [if_neg hg12] at hp; cases hp
      rw [if_pos hg12] at hp
      refine e_getQ f150_24 hg12 rfl ?_
      by_cases hc13 : (hR (h) (o10) 2) = none
      · rw [if_pos hc13] at hp
        rw [hc13]
        refine e_ifnull_t f150_27 ?_
        refine e_aload_n f150_32 rfl ?_
        refine e_getR f150_33 (WF.t w 32 (by decide)) rfl (WF.r (q := 67) w 32 12 (by decide)) ?_
        refine e_iload_n f150_36 rfl ?_
        by_cases hg16 : (a0) < (0 : Int32) ∨ 30 ≤ (a0).toNatClampNeg
        · rw [if_pos hg16] at hp; cases hp
        rw [if_neg hg16] at hp
        refine e_aaload f150_37 (Or.inr (Or.inr (Or.inl (WF.t w 67 (by decide))))) (WF.n w 67 (by decide)) hg16 ?_
        refine e_aload_n f150_38 rfl ?_
        obtain ⟨o17, ho18, hp⟩ := bind_some hp
        try dsimp only at hp
        rw [ho18]
        by_cases hg19 : hT (h) (o17) = 6
        rotate_left
        · rw [if_neg hg19] at hp; cases hp
        rw [if_pos hg19] at hp
        refine e_putR f150_39 hg19 rfl ?_
        refine e_aload_n f150_42 rfl ?_
        refine e_getR f150_43 (WF.t (WF.rr (j := 2) (v := some (o7)) w (o17) (WF.own w hg19)) 32 (by decide)) rfl (WF.r (q := 67) (WF.rr (j := 2) (v := some (o7)) w (o17) (WF.own w hg19)) 32 12 (by decide)) ?_
        refine e_iload_n f150_46 rfl ?_
        by_cases hg20 : (a0) < (0 : Int32) ∨ 30 ≤ (a0).toNatClampNeg
        · rw [if_pos hg20] at hp; cases hp
        rw [if_neg hg20] at hp
        refine e_aaload f150_47 (Or.inr (Or.inr (Or.inl (WF.t (WF.rr (j := 2) (v := some (o7)) w (o17) (WF.own w hg19)) 67 (by decide))))) (WF.n (WF.rr (j := 2) (v := some (o7)) w (o17) (WF.own w hg19)) 67 (by decide)) hg20 ?_
        refine e_aload_n f150_48 rfl ?_
        refine e_getI f150_49 (WF.t (WF.rr (j := 2) (v := some (o7)) w (o17) (WF.own w hg19)) 32 (by decide)) (by decide) ?_
        obtain ⟨o21, ho22, hp⟩ := bind_some hp
        try dsimp only at hp
        rw [ho22]
        by_cases hg23 : hT (hsR (h) (o17) 2 (some (o7))) (o21) = 6
        rotate_left
        · rw [if_neg hg23] at hp; cases hp
        rw [if_pos hg23] at hp
        refine e_putI f150_52 hg23 rfl ?_
        refine e_aload_n f150_55 rfl ?_
        refine e_getR f150_56 (WF.t (WF.rr (j := 2) (v := some (o7)) w (o17) (WF.own w hg19)) 32 (by decide)) rfl (WF.r (q := 67) (WF.rr (j := 2) (v := some (o7)) w (o17) (WF.own w hg19)) 32 12 (by decide)) ?_
        refine e_iload_n f150_59 rfl ?_
        by_cases hg24 : (a0) < (0 : Int32) ∨ 30 ≤ (a0).toNatClampNeg
        · rw [if_pos hg24] at hp; cases hp
        rw [if_neg hg24] at hp
        refine e_aaload f150_60 (Or.inr (Or.inr (Or.inl (WF.t (WF.rr (j := 2) (v := some (o7)) w (o17) (WF.own w hg19)) 67 (by decide))))) (WF.n (WF.rr (j := 2) (v := some (o7)) w (o17) (WF.own w hg19)) 67 (by decide)) hg24 ?_
        refine e_dup f150_61 (by cases (hR (hsI (hsR (h) (o17) 2 (some (o7))) (o21) 3 (hI (hsR (h) (o17) 2 (some (o7))) (32) 0)) (67) (a0).toNatClampNeg) <;> rfl) ?_
        obtain ⟨o25, ho26, hp⟩ := bind_some hp
        try dsimp only at hp
        rw [ho26]
        by_cases hg27 : hT (hsI (hsR (h) (o17) 2 (some (o7))) (o21) 3 (hI (hsR (h) (o17) 2 (some (o7))) (32) 0)) (o25) = 6
        rotate_left
        · rw [if_neg hg27] at hp; cases hp
        rw [if_pos hg27] at hp
        refine e_getI f150_62 hg27 (by decide) ?_
        refine e_iconst (v := 1) f150_65 (by decide) ?_
        refine e_iadd f150_66 ?_
        refine e_putI f150_67 hg27 rfl ?_
        obtain ⟨h28, e29, hp⟩ := bind_some hp
        try dsimp only at hp
        have e29 := Option.some.inj e29
        have w30 : WF h28 := e29 ▸ (WF.rr (j := 2) (v := some (o7)) w (o17) (WF.own w hg19))
        rw [e29]
        refine e_iconst (v := 1) f150_70 (by decide) ?_
        have hp := Option.some.inj hp
        subst hp
        exact e_ireturn f150_71 (by decide)
      · rw [if_neg hc13] at hp
        obtain ⟨o14, ho15, hp⟩ := bind_some hp
        try dsimp only at hp
        rw [ho15]
        refine e_ifnull_f f150_27 ?_
        refine e_iconst (v := 0) f150_30 (by decide) ?_
        have hp := Option.some.inj hp
        subst hp
        exact e_ireturn f150_31 (by decide)
set_option maxRecDepth 100000 in
set_option maxHeartbeats 4000000 in
theorem p150_w (h : HS) (w : WF h) (a0 : Int32) (a1 : Int32) (r : Int32 × HS) (hp : p150 h a0 a1 = some r) : WF r.2 := by
  unfold p150 at hp
  obtain ⟨r1, hr2, hp⟩ := bind_some hp
  try dsimp only at hp
  obtain ⟨r3, hr4, hp⟩ := bind_some hp
  try dsimp only at hp
  by_cases hc5 : (r3) = (0 : Int32)
  · rw [if_pos hc5] at hp
    have hp := Option.some.inj hp
    subst hp
    exact (w)
  · rw [if_neg hc5] at hp
    by_cases hc6 : (r1) = none
    · rw [if_pos hc6] at hp
      have hp := Option.some.inj hp
      subst hp
      exact (w)
    · rw [if_neg hc6] at hp
      obtain ⟨o7, ho8, hp⟩ := bind_some hp
      try dsimp only at hp
      by_cases hg9 : (a0) < (0 : Int32) ∨ 30 ≤ (a0).toNatClampNeg
      · rw [if_pos hg9] at hp; cases hp
      rw [if_neg hg9] at hp
      obtain ⟨o10, ho11, hp⟩ := bind_some hp
      try dsimp only at hp
      by_cases hg12 : hT (h) (o10) = 6
      rotate_left
      · rw [if_neg hg12] at hp; cases hp
      rw [if_pos hg12] at hp
      by_cases hc13 : (hR (h) (o10) 2) = none
      · rw [if_pos hc13] at hp
        by_cases hg16 : (a0) < (0 : Int32) ∨ 30 ≤ (a0).toNatClampNeg
        · rw [if_pos hg16] at hp; cases hp
        rw [if_neg hg16] at hp
        obtain ⟨o17, ho18, hp⟩ := bind_some hp
        try dsimp only at hp
        by_cases hg19 : hT (h) (o17) = 6
        rotate_left
        · rw [if_neg hg19] at hp; cases hp
        rw [if_pos hg19] at hp
        by_cases hg20 : (a0) < (0 : Int32) ∨ 30 ≤ (a0).toNatClampNeg
        · rw [if_pos hg20] at hp; cases hp
        rw [if_neg hg20] at hp
        obtain ⟨o21, ho22, hp⟩ := bind_some hp
        try dsimp only at hp
        by_cases hg23 : hT (hsR (h) (o17) 2 (some (o7))) (o21) = 6
        rotate_left
        · rw [if_neg hg23] at hp; cases hp
        rw [if_pos hg23] at hp
        by_cases hg24 : (a0) < (0 : Int32) ∨ 30 ≤ (a0).toNatClampNeg
        · rw [if_pos hg24] at hp; cases hp
        rw [if_neg hg24] at hp
        obtain ⟨o25, ho26, hp⟩ := bind_some hp
        try dsimp only at hp
        by_cases hg27 : hT (hsI (hsR (h) (o17) 2 (some (o7))) (o21) 3 (hI (hsR (h) (o17) 2 (some (o7))) (32) 0)) (o25) = 6
        rotate_left
        · rw [if_neg hg27] at hp; cases hp
        rw [if_pos hg27] at hp
        obtain ⟨h28, e29, hp⟩ := bind_some hp
        try dsimp only at hp
        have e29 := Option.some.inj e29
        have w30 : WF h28 := e29 ▸ (WF.rr (j := 2) (v := some (o7)) w (o17) (WF.own w hg19))
        have hp := Option.some.inj hp
        subst hp
        exact (w30)
      · rw [if_neg hc13] at hp
        obtain ⟨o14, ho15, hp⟩ := bind_some hp
        try dsimp only at hp
        have hp := Option.some.inj hp
        subst hp
        exact (w)
theorem f181_0 : fetch 181 0 = some (.aload_n 0, 0, 0, 0) := rfl
theorem f181_1 : fetch 181 1 = some (.aload_n 0, 0, 0, 0) := rfl
theorem f181_2 : fetch 181 2 = some (.getfield 88, 11, 0, 0) := rfl
theorem f181_5 : fetch 181 5 = some (.invokevirtual 360, 176, 1, 0) := rfl
theorem f181_8 : fetch 181 8 = some (.astore_n 2, 0, 0, 0) := rfl
theorem f181_9 : fetch 181 9 = some (.aload_n 2, 0, 0, 0) := rfl
theorem f181_10 : fetch 181 10 = some (.ifnull 10, 20, 0, 0) := rfl
theorem f181_13 : fetch 181 13 = some (.aload_n 1, 0, 0, 0) := rfl
theorem f181_14 : fetch 181 14 = some (.getfield 376, 6, 2, 2) := rfl
theorem f181_17 : fetch 181 17 = some (.ifnonnull 5, 22, 0, 0) := rfl
theorem f181_20 : fetch 181 20 = some (.lconst 0, 0, 0, 0) := rfl
theorem f181_21 : fetch 181 21 = some (.lreturn, 0, 0, 0) := rfl
theorem f181_22 : fetch 181 22 = some (.aload_n 0, 0, 0, 0) := rfl
theorem f181_23 : fetch 181 23 = some (.aload_n 1, 0, 0, 0) := rfl
theorem f181_24 : fetch 181 24 = some (.aload_n 1, 0, 0, 0) := rfl
theorem f181_25 : fetch 181 25 = some (.getfield 376, 6, 2, 2) := rfl
theorem f181_28 : fetch 181 28 = some (.invokevirtual 499, 178, 2, 0) := rfl
theorem f181_31 : fetch 181 31 = some (.aload_n 2, 0, 0, 0) := rfl
theorem f181_32 : fetch 181 32 = some (.aload_n 0, 0, 0, 0) := rfl
theorem f181_33 : fetch 181 33 = some (.getfield 84, 11, 15, 2) := rfl
theorem f181_36 : fetch 181 36 = some (.invokevirtual 510, 26, 1, 0) := rfl
theorem f181_39 : fetch 181 39 = some (.lreturn, 0, 0, 0) := rfl
set_option maxRecDepth 100000 in
set_option maxHeartbeats 4000000 in
theorem p181_ok (d : Nat) (F : Nat) (h : HS) (w : WF h) (a0 : Option Nat) (r : Int64 × HS) (hp : p181 F h a0 = some r) : ex (d + 3) 181 (ent 181 [.ref (32), va_rf (a0)] h) = some (some (.long (r.1)), r.2) := by
  rw [show ent 181 [.ref (32), va_rf (a0)] h = (0, [some (.ref (32)), some (va_rf (a0)), none], [], h) from by cases a0 <;> rfl]
  refine ex_weak (ls := [some (.ref (32)), some (va_rf (a0)), none]) (le2_ok ⟨Or.inr rfl, Or.inr rfl, Or.inr rfl, trivial⟩) ?_
  unfold p181 at hp
  refine e_aload_n f181_0 rfl ?_
  refine e_aload_n f181_1 rfl ?_
  refine e_getI f181_2 (WF.t w 32 (by decide)) (by decide) ?_
  obtain ⟨r1, hr2, hp⟩ := bind_some hp
  try dsimp only at hp
  refine e_callV (st := []) (o := 32) (as := [.int (hI (h) (32) 0)]) f181_5 (by decide) rfl rfl (Nat.le_of_ble_eq_true rfl) (WF.t w 32 (by decide)) (Nat.le_of_ble_eq_true rfl) (p176_ok (d + 1) F (h) w (hI (h) (32) 0) r1 hr2) ?_
  show ex _ 181 (8, [some (.ref (32)), some (va_rf (a0)), none], [va_rf (r1)], h) = _
  refine e_qstore_n (ls2 := [some (.ref (32)), some (va_rf (a0)), some (va_rf (r1))]) f181_8 (Nat.le_of_ble_eq_true rfl) (by generalize a0 = z; cases z <;> rfl) ?_
  refine e_qload_n f181_9 rfl ?_
  by_cases hc3 : (r1) = none
  · rw [if_pos hc3] at hp
    rw [hc3]
    refine e_ifnull_t f181_10 ?_
    refine e_lconst (v := 0) f181_20 (by decide) ?_
    have hp := Option.some.inj hp
    subst hp
    exact e_lreturn f181_21
  · rw [if_neg hc3] at hp
    obtain ⟨o4, ho5, hp⟩ := bind_some hp
    try dsimp only at hp
    rw [ho5]
    refine e_ifnull_f f181_10 ?_
    refine e_qload_n f181_13 rfl ?_
    obtain ⟨o6, ho7, hp⟩ := bind_some hp
    try dsimp only at hp
    rw [ho7]
    by_cases hg8 : hT (h) (o6) = 6
    rotate_left
    · rw [if_neg hg8] at hp; cases hp
    rw [if_pos hg8] at hp
    refine e_getQ f181_14 hg8 rfl ?_
    by_cases hc9 : (hR (h) (o6) 2) = none
    · rw [if_pos hc9] at hp
      rw [hc9]
      refine e_ifnonnull_f f181_17 ?_
      refine e_lconst (v := 0) f181_20 (by decide) ?_
      have hp := Option.some.inj hp
      subst hp
      exact e_lreturn f181_21
    · rw [if_neg hc9] at hp
      obtain ⟨o10, ho11, hp⟩ := bind_some hp
      try dsimp only at hp
      rw [ho11]
      refine e_ifnonnull_t f181_17 ?_
      refine e_aload_n f181_22 rfl ?_
      refine e_aload_n f181_23 rfl ?_
      refine e_aload_n f181_24 rfl ?_
      refine e_getQ f181_25 hg8 rfl ?_
      obtain ⟨r12, hr13, hp⟩ := bind_some hp
      try dsimp only at hp
      refine e_callV (st := []) (o := 32) (as := [.ref (o6), va_rf (hR (h) (o6) 2)]) f181_28 (by decide) rfl rfl (Nat.le_of_ble_eq_true rfl) (WF.t w 32 (by decide)) (by cases (hR (h) (o6) 2) <;> exact Nat.le_of_ble_eq_true rfl) (p178_ok (d + 1) F (h) w (some (o6)) (hR (h) (o6) 2) r12 hr13) ?_
      show ex _ 181 (31, [some (.ref (32)), some (.ref (o6)), some (.ref (o4))], [], r12) = _
      refine e_aload_n f181_31 rfl ?_
      refine e_aload_n f181_32 rfl ?_
      refine e_getR f181_33 (WF.t (p178_w F (h) w (some (o6)) (hR (h) (o6) 2)  r12 hr13) 32 (by decide)) rfl (WF.r (q := 85) (p178_w F (h) w (some (o6)) (hR (h) (o6) 2)  r12 hr13) 32 15 (by decide)) ?_
      by_cases hg14 : hT (r12) (o4) = 1
      rotate_left
      · rw [if_neg hg14] at hp; cases hp
      rw [if_pos hg14] at hp
      obtain ⟨r15, hr16, hp⟩ := bind_some hp
      try dsimp only at hp
      refine e_callV (st := []) (o := o4) (as := [.ref (85)]) f181_36 (by decide) rfl rfl (Nat.le_of_ble_eq_true rfl) hg14 (Nat.le_of_ble_eq_true rfl) (p26_ok d F (r12) (p178_w F (h) w (some (o6)) (hR (h) (o6) 2)  r12 hr13) (o4) (some (85)) hg14 r15 hr16) ?_
      show ex _ 181 (39, [some (.ref (32)), some (.ref (o6)), some (.ref (o4))], [.long (r15.1)], r15.2) = _
      have hp := Option.some.inj hp
      subst hp
      exact e_lreturn f181_39
set_option maxRecDepth 100000 in
set_option maxHeartbeats 4000000 in
theorem p181_w (F : Nat) (h : HS) (w : WF h) (a0 : Option Nat) (r : Int64 × HS) (hp : p181 F h a0 = some r) : WF r.2 := by
  unfold p181 at hp
  obtain ⟨r1, hr2, hp⟩ := bind_some hp
  try dsimp only at hp
  by_cases hc3 : (r1) = none
  · rw [if_pos hc3] at hp
    have hp := Option.some.inj hp
    subst hp
    exact (w)
  · rw [if_neg hc3] at hp
    obtain ⟨o4, ho5, hp⟩ := bind_some hp
    try dsimp only at hp
    obtain ⟨o6, ho7, hp⟩ := bind_some hp
    try dsimp only at hp
    by_cases hg8 : hT (h) (o6) = 6
    rotate_left
    · rw [if_neg hg8] at hp; cases hp
    rw [if_pos hg8] at hp
    by_cases hc9 : (hR (h) (o6) 2) = none
    · rw [if_pos hc9] at hp
      have hp := Option.some.inj hp
      subst hp
      exact (w)
    · rw [if_neg hc9] at hp
      obtain ⟨o10, ho11, hp⟩ := bind_some hp
      try dsimp only at hp
      obtain ⟨r12, hr13, hp⟩ := bind_some hp
      try dsimp only at hp
      by_cases hg14 : hT (r12) (o4) = 1
      rotate_left
      · rw [if_neg hg14] at hp; cases hp
      rw [if_pos hg14] at hp
      obtain ⟨r15, hr16, hp⟩ := bind_some hp
      try dsimp only at hp
      have hp := Option.some.inj hp
      subst hp
      exact ((p26_w F (r12) (p178_w F (h) w (some (o6)) (hR (h) (o6) 2)  r12 hr13) (o4) (some (85)) hg14  r15 hr16))
theorem f151_0 : fetch 151 0 = some (.aload_n 0, 0, 0, 0) := rfl
theorem f151_1 : fetch 151 1 = some (.iload_n 1, 0, 0, 0) := rfl
theorem f151_2 : fetch 151 2 = some (.invokevirtual 354, 173, 1, 0) := rfl
theorem f151_5 : fetch 151 5 = some (.ifCond .eq 15, 20, 0, 0) := rfl
theorem f151_8 : fetch 151 8 = some (.aload_n 0, 0, 0, 0) := rfl
theorem f151_9 : fetch 151 9 = some (.getfield 66, 11, 12, 2) := rfl
theorem f151_12 : fetch 151 12 = some (.iload_n 1, 0, 0, 0) := rfl
theorem f151_13 : fetch 151 13 = some (.aaload, 0, 0, 0) := rfl
theorem f151_14 : fetch 151 14 = some (.getfield 376, 6, 2, 2) := rfl
theorem f151_17 : fetch 151 17 = some (.ifnonnull 7, 24, 0, 0) := rfl
theorem f151_20 : fetch 151 20 = some (.ldc2_w 386, 0, 0, -9223372036854775808) := rfl
theorem f151_23 : fetch 151 23 = some (.lreturn, 0, 0, 0) := rfl
theorem f151_24 : fetch 151 24 = some (.aload_n 0, 0, 0, 0) := rfl
theorem f151_25 : fetch 151 25 = some (.aload_n 0, 0, 0, 0) := rfl
theorem f151_26 : fetch 151 26 = some (.getfield 66, 11, 12, 2) := rfl
theorem f151_29 : fetch 151 29 = some (.iload_n 1, 0, 0, 0) := rfl
theorem f151_30 : fetch 151 30 = some (.aaload, 0, 0, 0) := rfl
theorem f151_31 : fetch 151 31 = some (.invokevirtual 388, 181, 1, 0) := rfl
theorem f151_34 : fetch 151 34 = some (.lreturn, 0, 0, 0) := rfl
set_option maxRecDepth 100000 in
set_option maxHeartbeats 4000000 in
theorem p151_ok (d : Nat) (F : Nat) (h : HS) (w : WF h) (a0 : Int32) (r : Int64 × HS) (hp : p151 F h a0 = some r) : ex (d + 4) 151 (ent 151 [.ref (32), .int (a0)] h) = some (some (.long (r.1)), r.2) := by
  rw [show ent 151 [.ref (32), .int (a0)] h = (0, [some (.ref (32)), some (.int (a0))], [], h) from by  rfl]
  refine ex_weak (ls := [some (.ref (32)), some (.int (a0))]) (le2_ok ⟨Or.inr rfl, Or.inr rfl, trivial⟩) ?_
  unfold p151 at hp
  refine e_aload_n f151_0 rfl ?_
  refine e_iload_n f151_1 rfl ?_
  obtain ⟨r1, hr2, hp⟩ := bind_some hp
  try dsimp only at hp
  refine e_callV (st := []) (o := 32) (as := [.int (a0)]) f151_2 (by decide) rfl rfl (Nat.le_of_ble_eq_true rfl) (WF.t w 32 (by decide)) (Nat.le_of_ble_eq_true rfl) (p173_ok (d + 2) (h) w (a0) r1 hr2) ?_
  show ex _ 151 (5, [some (.ref (32)), some (.int (a0))], [.int (r1)], h) = _
  by_cases hc3 : (r1) = (0 : Int32)
  · rw [if_pos hc3] at hp
    refine e_if_eq_t f151_5 hc3 ?_
    refine e_ldc2 (v := -9223372036854775808) f151_20 (by decide) ?_
    have hp := Option.some.inj hp
    subst hp
    exact e_lreturn f151_23
  · rw [if_neg hc3] at hp
    refine e_if_eq_f f151_5 hc3 ?_
    refine e_aload_n f151_8 rfl ?_
    refine e_getR f151_9 (WF.t w 32 (by decide)) rfl (WF.r (q := 67) w 32 12 (by decide)) ?_
    refine e_iload_n f151_12 rfl ?_
    by_cases hg4 : (a0) < (0 : Int32) ∨ 30 ≤ (a0).toNatClampNeg
    · rw [if_pos hg4] at hp; cases hp
    rw [if_neg hg4] at hp
    refine e_aaload f151_13 (Or.inr (Or.inr (Or.inl (WF.t w 67 (by decide))))) (WF.n w 67 (by decide)) hg4 ?_
    obtain ⟨o5, ho6, hp⟩ := bind_some hp
    try dsimp only at hp
    rw [ho6]
    by_cases hg7 : hT (h) (o5) = 6
    rotate_left
    · rw [if_neg hg7] at hp; cases hp
    rw [if_pos hg7] at hp
    refine e_getQ f151_14 hg7 rfl ?_
    by_cases hc8 : (hR (h) (o5) 2) = none
    · rw [if_pos hc8] at hp
      rw [hc8]
      refine e_ifnonnull_f f151_17 ?_
      refine e_ldc2 (v := -9223372036854775808) f151_20 (by decide) ?_
      have hp := Option.some.inj hp
      subst hp
      exact e_lreturn f151_23
    · rw [if_neg hc8] at hp
      obtain ⟨o9, ho10, hp⟩ := bind_some hp
      try dsimp only at hp
      rw [ho10]
      refine e_ifnonnull_t f151_17 ?_
      refine e_aload_n f151_24 rfl ?_
      refine e_aload_n f151_25 rfl ?_
      refine e_getR f151_26 (WF.t w 32 (by decide)) rfl (WF.r (q := 67) w 32 12 (by decide)) ?_
      refine e_iload_n f151_29 rfl ?_
      by_cases hg11 : (a0) < (0 : Int32) ∨ 30 ≤ (a0).toNatClampNeg
      · rw [if_pos hg11] at hp; cases hp
      rw [if_neg hg11] at hp
      refine e_aaload f151_30 (Or.inr (Or.inr (Or.inl (WF.t w 67 (by decide))))) (WF.n w 67 (by decide)) hg11 ?_
      obtain ⟨r12, hr13, hp⟩ := bind_some hp
      try dsimp only at hp
      refine e_callV (st := []) (o := 32) (as := [va_rf (hR (h) (67) (a0).toNatClampNeg)]) f151_31 (by decide) rfl rfl (Nat.le_of_ble_eq_true rfl) (WF.t w 32 (by decide)) (by cases (hR (h) (67) (a0).toNatClampNeg) <;> exact Nat.le_of_ble_eq_true rfl) (p181_ok d F (h) w (hR (h) (67) (a0).toNatClampNeg) r12 hr13) ?_
      show ex _ 151 (34, [some (.ref (32)), some (.int (a0))], [.long (r12.1)], r12.2) = _
      have hp := Option.some.inj hp
      subst hp
      exact e_lreturn f151_34
set_option maxRecDepth 100000 in
set_option maxHeartbeats 4000000 in
theorem p151_w (F : Nat) (h : HS) (w : WF h) (a0 : Int32) (r : Int64 × HS) (hp : p151 F h a0 = some r) : WF r.2 := by
  unfold p151 at hp
  obtain ⟨r1, hr2, hp⟩ := bind_some hp
  try dsimp only at hp
  by_cases hc3 : (r1) = (0 : Int32)
  · rw [if_pos hc3] at hp
    have hp := Option.some.inj hp
    subst hp
    exact (w)
  · rw [if_neg hc3] at hp
    by_cases hg4 : (a0) < (0 : Int32) ∨ 30 ≤ (a0).toNatClampNeg
    · rw [if_pos hg4] at hp; cases hp
    rw [if_neg hg4] at hp
    obtain ⟨o5, ho6, hp⟩ := bind_some hp
    try dsimp only at hp
    by_cases hg7 : hT (h) (o5) = 6
    rotate_left
    · rw [if_neg hg7] at hp; cases hp
    rw [if_pos hg7] at hp
    by_cases hc8 : (hR (h) (o5) 2) = none
    · rw [if_pos hc8] at hp
      have hp := Option.some.inj hp
      subst hp
      exact (w)
    · rw [if_neg hc8] at hp
      obtain ⟨o9, ho10, hp⟩ := bind_some hp
      try dsimp only at hp
      by_cases hg11 : (a0) < (0 : Int32) ∨ 30 ≤ (a0).toNatClampNeg
      · rw [if_pos hg11] at hp; cases hp
      rw [if_neg hg11] at hp
      obtain ⟨r12, hr13, hp⟩ := bind_some hp
      try dsimp only at hp
      have hp := Option.some.inj hp
      subst hp
      exact ((p181_w F (h) w (hR (h) (67) (a0).toNatClampNeg)  r12 hr13))
theorem f182_0 : fetch 182 0 = some (.iconst (-1), 0, 0, 0) := rfl
theorem f182_1 : fetch 182 1 = some (.istore_n 1, 0, 0, 0) := rfl
theorem f182_2 : fetch 182 2 = some (.lconst 0, 0, 0, 0) := rfl
theorem f182_3 : fetch 182 3 = some (.lstore_n 2, 0, 0, 0) := rfl
theorem f182_4 : fetch 182 4 = some (.iconst 0, 0, 0, 0) := rfl
theorem f182_5 : fetch 182 5 = some (.istore 4, 0, 0, 0) := rfl
theorem f182_7 : fetch 182 7 = some (.iload 4, 0, 0, 0) := rfl
theorem f182_9 : fetch 182 9 = some (.aload_n 0, 0, 0, 0) := rfl
theorem f182_10 : fetch 182 10 = some (.getfield 348, 11, 4, 0) := rfl
theorem f182_13 : fetch 182 13 = some (.if_icmp .ge 108, 121, 0, 0) := rfl
theorem f182_16 : fetch 182 16 = some (.aload_n 0, 0, 0, 0) := rfl
theorem f182_17 : fetch 182 17 = some (.getfield 66, 11, 12, 2) := rfl
theorem f182_20 : fetch 182 20 = some (.iload 4, 0, 0, 0) := rfl
theorem f182_22 : fetch 182 22 = some (.aaload, 0, 0, 0) := rfl
theorem f182_23 : fetch 182 23 = some (.getfield 376, 6, 2, 2) := rfl
theorem f182_26 : fetch 182 26 = some (.astore 5, 0, 0, 0) := rfl
theorem f182_28 : fetch 182 28 = some (.aload 5, 0, 0, 0) := rfl
theorem f182_30 : fetch 182 30 = some (.ifnull 85, 115, 0, 0) := rfl
theorem f182_33 : fetch 182 33 = some (.aload 5, 0, 0, 0) := rfl
theorem f182_35 : fetch 182 35 = some (.getfield 172, 9, 2, 0) := rfl
theorem f182_38 : fetch 182 38 = some (.sipush 4000, 0, 0, 0) := rfl
theorem f182_41 : fetch 182 41 = some (.if_icmp .eq 74, 115, 0, 0) := rfl
theorem f182_44 : fetch 182 44 = some (.aload 5, 0, 0, 0) := rfl
theorem f182_46 : fetch 182 46 = some (.getfield 162, 9, 3, 0) := rfl
theorem f182_49 : fetch 182 49 = some (.sipush 4000, 0, 0, 0) := rfl
theorem f182_52 : fetch 182 52 = some (.if_icmp .ne 63, 115, 0, 0) := rfl
theorem f182_55 : fetch 182 55 = some (.aload_n 0, 0, 0, 0) := rfl
theorem f182_56 : fetch 182 56 = some (.aload_n 0, 0, 0, 0) := rfl
theorem f182_57 : fetch 182 57 = some (.getfield 66, 11, 12, 2) := rfl
theorem f182_60 : fetch 182 60 = some (.iload 4, 0, 0, 0) := rfl
theorem f182_62 : fetch 182 62 = some (.aaload, 0, 0, 0) := rfl
theorem f182_63 : fetch 182 63 = some (.invokevirtual 388, 181, 1, 0) := rfl
theorem f182_66 : fetch 182 66 = some (.lstore 6, 0, 0, 0) := rfl
theorem f182_68 : fetch 182 68 = some (.iload_n 1, 0, 0, 0) := rfl
theorem f182_69 : fetch 182 69 = some (.iconst (-1), 0, 0, 0) := rfl
theorem f182_70 : fetch 182 70 = some (.if_icmp .eq 39, 109, 0, 0) := rfl
theorem f182_73 : fetch 182 73 = some (.lload 6, 0, 0, 0) := rfl
theorem f182_75 : fetch 182 75 = some (.lload_n 2, 0, 0, 0) := rfl
theorem f182_76 : fetch 182 76 = some (.lcmp, 0, 0, 0) := rfl
theorem f182_77 : fetch 182 77 = some (.ifCond .gt 32, 109, 0, 0) := rfl
theorem f182_80 : fetch 182 80 = some (.lload 6, 0, 0, 0) := rfl
theorem f182_82 : fetch 182 82 = some (.lload_n 2, 0, 0, 0) := rfl
theorem f182_83 : fetch 182 83 = some (.lcmp, 0, 0, 0) := rfl
theorem f182_84 : fetch 182 84 = some (.ifCond .ne 31, 115, 0, 0) := rfl
theorem f182_87 : fetch 182 87 = some (.aload_n 0, 0, 0, 0) := rfl
theorem f182_88 : fetch 182 88 = some (.getfield 66, 11, 12, 2) := rfl
theorem f182_91 : fetch 182 91 = some (.iload 4, 0, 0, 0) := rfl
theorem f182_93 : fetch 182 93 = some (.aaload, 0, 0, 0) := rfl
theorem f182_94 : fetch 182 94 = some (.getfield 380, 6, 3, 0) := rfl
theorem f182_97 : fetch 182 97 = some (.aload_n 0, 0, 0, 0) := rfl
theorem f182_98 : fetch 182 98 = some (.getfield 66, 11, 12, 2) := rfl
theorem f182_101 : fetch 182 101 = some (.iload_n 1, 0, 0, 0) := rfl
theorem f182_102 : fetch 182 102 = some (.aaload, 0, 0, 0) := rfl
theorem f182_103 : fetch 182 103 = some (.getfield 380, 6, 3, 0) := rfl
theorem f182_106 : fetch 182 106 = some (.if_icmp .ge 9, 115, 0, 0) := rfl
theorem f182_109 : fetch 182 109 = some (.iload 4, 0, 0, 0) := rfl
theorem f182_111 : fetch 182 111 = some (.istore_n 1, 0, 0, 0) := rfl
theorem f182_112 : fetch 182 112 = some (.lload 6, 0, 0, 0) := rfl
theorem f182_114 : fetch 182 114 = some (.lstore_n 2, 0, 0, 0) := rfl
theorem f182_115 : fetch 182 115 = some (.iinc 4 1, 0, 0, 0) := rfl
theorem f182_118 : fetch 182 118 = some (.goto (-111), 7, 0, 0) := rfl
theorem f182_121 : fetch 182 121 = some (.iload_n 1, 0, 0, 0) := rfl
theorem f182_122 : fetch 182 122 = some (.ireturn, 0, 0, 0) := rfl
set_option maxRecDepth 100000 in
set_option maxHeartbeats 4000000 in
theorem p182_j115_ok (d : Nat) (F : Nat) (K7 : HS → Int32 → Int64 → Int32 → Option (Int32 × HS)) (hK7 : ∀ (h : HS) (w : WF h) (u1 : Int32) (u2 : Int64) (u4 : Int32) (r : Int32 × HS), K7 h u1 u2 u4 = some r → ex (d + 4) 182 (7, [some (.ref (32)), some (.int (u1)), some (.long (u2)), none, some (.int (u4)), none, none, none], [], h) = some (some (.int (r.1)), r.2)) (h : HS) (w : WF h) (v1 : Int32) (v2 : Int64) (v4 : Int32) (r : Int32 × HS) (hp : p182_j115 F K7 h v1 v2 v4 = some r) : ex (d + 4) 182 (115, [some (.ref (32)), some (.int (v1)), some (.long (v2)), none, some (.int (v4)), none, none, none], [], h) = some (some (.int (r.1)), r.2) := by
  unfold p182_j115 at hp
  refine e_iinc (ls2 := [some (.ref (32)), some (.int (v1)), some (.long (v2)), none, some (.int ((v4) + 1)), none, none, none]) f182_115 (by decide) rfl rfl ?_
  refine e_goto f182_118 ?_
  refine ex_weak (ls := [some (.ref (32)), some (.int (v1)), some (.long (v2)), none, some (.int ((v4) + 1)), none, none, none]) (le2_ok ⟨Or.inr rfl, Or.inr rfl, Or.inr rfl, Or.inl rfl, Or.inr rfl, Or.inl rfl, Or.inl rfl, Or.inl rfl, trivial⟩) ?_
  exact hK7 (h) (w) (v1) (v2) ((v4) + 1) _ hp
set_option maxRecDepth 100000 in
set_option maxHeartbeats 4000000 in
theorem p182_j115_w (F : Nat) (K7 : HS → Int32 → Int64 → Int32 → Option (Int32 × HS)) (hK7 : ∀ (h : HS) (w : WF h) (u1 : Int32) (u2 : Int64) (u4 : Int32) (r : Int32 × HS), K7 h u1 u2 u4 = some r → WF r.2) (h : HS) (w : WF h) (v1 : Int32) (v2 : Int64) (v4 : Int32) (r : Int32 × HS) (hp : p182_j115 F K7 h v1 v2 v4 = some r) : WF r.2 := by
  unfold p182_j115 at hp
  exact hK7 (h) (w) (v1) (v2) ((v4) + 1) _ hp
set_option maxRecDepth 100000 in
set_option maxHeartbeats 4000000 in
theorem p182_j109_ok (d : Nat) (F : Nat) (K7 : HS → Int32 → Int64 → Int32 → Option (Int32 × HS)) (hK7 : ∀ (h : HS) (w : WF h) (u1 : Int32) (u2 : Int64) (u4 : Int32) (r : Int32 × HS), K7 h u1 u2 u4 = some r → ex (d + 4) 182 (7, [some (.ref (32)), some (.int (u1)), some (.long (u2)), none, some (.int (u4)), none, none, none], [], h) = some (some (.int (r.1)), r.2)) (h : HS) (w : WF h) (v4 : Int32) (v6 : Int64) (r : Int32 × HS) (hp : p182_j109 F K7 h v4 v6 = some r) : ex (d + 4) 182 (109, [some (.ref (32)), none, none, none, some (.int (v4)), none, some (.long (v6)), none], [], h) = some (some (.int (r.1)), r.2) := by
  unfold p182_j109 at hp
  refine e_iload f182_109 rfl ?_
  refine e_istore_n (ls2 := [some (.ref (32)), some (.int (v4)), none, none, some (.int (v4)), none, some (.long (v6)), none]) f182_111 (Nat.le_of_ble_eq_true rfl) rfl ?_
  refine e_lload f182_112 rfl ?_
  refine e_lstore_n (ls2 := [some (.ref (32)), some (.int (v4)), some (.long (v6)), none, some (.int (v4)), none, some (.long (v6)), none]) f182_114 (Nat.le_of_ble_eq_true rfl) rfl ?_
  refine ex_weak (ls := [some (.ref (32)), some (.int (v4)), some (.long (v6)), none, some (.int (v4)), none, none, none]) (le2_ok ⟨Or.inr rfl, Or.inr rfl, Or.inr rfl, Or.inl rfl, Or.inr rfl, Or.inl rfl, Or.inl rfl, Or.inl rfl, trivial⟩) ?_
  exact p182_j115_ok d F (K7) (hK7) (h) (w) (v4) (v6) (v4) _ hp
set_option maxRecDepth 100000 in
set_option maxHeartbeats 4000000 in
theorem p182_j109_w (F : Nat) (K7 : HS → Int32 → Int64 → Int32 → Option (Int32 × HS)) (hK7 : ∀ (h : HS) (w : WF h) (u1 : Int32) (u2 : Int64) (u4 : Int32) (r : Int32 × HS), K7 h u1 u2 u4 = some r → WF r.2) (h : HS) (w : WF h) (v4 : Int32) (v6 : Int64) (r : Int32 × HS) (hp : p182_j109 F K7 h v4 v6 = some r) : WF r.2 := by
  unfold p182_j109 at hp
  exact p182_j115_w F (K7) (hK7) (h) (w) (v4) (v6) (v4) _ hp
set_option maxRecDepth 100000 in
set_option maxHeartbeats 4000000 in
theorem p182_L7_ok (d : Nat) (F : Nat) : ∀ (n : Nat) (h : HS) (w : WF h) (v1 : Int32) (v2 : Int64) (v4 : Int32) (r : Int32 × HS), p182_L7 F n h v1 v2 v4 = some r → ex (d + 4) 182 (7, [some (.ref (32)), some (.int (v1)), some (.long (v2)), none, some (.int (v4)), none, none, none], [], h) = some (some (.int (r.1)), r.2) := by
  intro n
  induction n with
  | zero => intro h w v1 v2 v4 r hp; cases hp
  | succ n ih =>
    intro h w v1 v2 v4 r hp
    unfold p182_L7 at hp
    refine e_iload f182_7 rfl ?_
    refine e_aload_n f182_9 rfl ?_
    refine e_getI f182_10 (WF.t w 32 (by decide)) (by decide) ?_
    by_cases hc1 : (v4) < ((hI (h) (32) 4) : Int32)
    · rw [if_pos hc1] at hp
      refine e_icmp_ge_f f182_13 hc1 ?_
      refine e_aload_n f182_16 rfl ?_
      refine e_getR f182_17 (WF.t w 32 (by decide)) rfl (WF.r (q := 67) w 32 12 (by decide)) ?_
      refine e_iload f182_20 rfl ?_
      by_cases hg2 : (v4) < (0 : Int32) ∨ 30 ≤ (v4).toNatClampNeg
      · rw [if_pos hg2] at hp; cases hp
      rw [if_neg hg2] at hp
      refine e_aaload f182_22 (Or.inr (Or.inr (Or.inl (WF.t w 67 (by decide))))) (WF.n w 67 (by decide)) hg2 ?_
      obtain ⟨o3, ho4, hp⟩ := bind_some hp
      try dsimp only at hp
      rw [ho4]
      by_cases hg5 : hT (h) (o3) = 6
      rotate_left
      · rw [if_neg hg5] at hp; cases hp
      rw [if_pos hg5] at hp
      refine e_getQ f182_23 hg5 rfl ?_
      refine e_qstore (ls2 := [some (.ref (32)), some (.int (v1)), some (.long (v2)), none, some (.int (v4)), some (va_rf (hR (h) (o3) 2)), none, none]) f182_26 (Nat.le_of_ble_eq_true rfl) rfl ?_
      refine e_qload f182_28 rfl ?_
      by_cases hc6 : (hR (h) (o3) 2) = none
      · rw [if_pos hc6] at hp
        rw [hc6]
        refine e_ifnull_t f182_30 ?_
        refine ex_weak (ls := [some (.ref (32)), some (.int (v1)), some (.long (v2)), none, some (.int (v4)), none, none, none]) (le2_ok ⟨Or.inr rfl, Or.inr rfl, Or.inr rfl, Or.inl rfl, Or.inr rfl, Or.inl rfl, Or.inl rfl, Or.inl rfl, trivial⟩) ?_
        exact p182_j115_ok d F ((p182_L7 F n)) (ih) (h) (w) (v1) (v2) (v4) _ hp
      · rw [if_neg hc6] at hp
        obtain ⟨o7, ho8, hp⟩ := bind_some hp
        try dsimp only at hp
        rw [ho8]
        refine e_ifnull_f f182_30 ?_
        refine e_aload f182_33 rfl ?_
        by_cases hg9 : hT (h) (o7) = 9
        rotate_left
        · rw [if_neg hg9] at hp; cases hp
        rw [if_pos hg9] at hp
        refine e_getI f182_35 hg9 (by decide) ?_
        refine e_sipush (v := 4000) f182_38 (by decide) ?_
        by_cases hc10 : (hI (h) (o7) 2) = ((4000) : Int32)
        · rw [if_pos hc10] at hp
          refine e_icmp_eq_t f182_41 hc10 ?_
          refine ex_weak (ls := [some (.ref (32)), some (.int (v1)), some (.long (v2)), none, some (.int (v4)), none, none, none]) (le2_ok ⟨Or.inr rfl, Or.inr rfl, Or.inr rfl, Or.inl rfl, Or.inr rfl, Or.inl rfl, Or.inl rfl, Or.inl rfl, trivial⟩) ?_
          exact p182_j115_ok d F ((p182_L7 F n)) (ih) (h) (w) (v1) (v2) (v4) _ hp
        · rw [if_neg hc10] at hp
          refine e_icmp_eq_f f182_41 hc10 ?_
          refine e_aload f182_44 rfl ?_
          refine e_getI f182_46 hg9 (by decide) ?_
          refine e_sipush (v := 4000) f182_49 (by decide) ?_
          by_cases hc11 : (hI (h) (o7) 3) = ((4000) : Int32)
          · rw [if_pos hc11] at hp
            refine e_icmp_ne_f f182_52 hc11 ?_
            refine e_aload_n f182_55 rfl ?_
            refine e_aload_n f182_56 rfl ?_
            refine e_getR f182_57 (WF.t w 32 (by decide)) rfl (WF.r (q := 67) w 32 12 (by decide)) ?_
            refine e_iload f182_60 rfl ?_
            by_cases hg12 : (v4) < (0 : Int32) ∨ 30 ≤ (v4).toNatClampNeg
            · rw [if_pos hg12] at hp; cases hp
            rw [if_neg hg12] at hp
            refine e_aaload f182_62 (Or.inr (Or.inr (Or.inl (WF.t w 67 (by decide))))) (WF.n w 67 (by decide)) hg12 ?_
            obtain ⟨r13, hr14, hp⟩ := bind_some hp
            try dsimp only at hp
            refine e_callV (st := []) (o := 32) (as := [va_rf (hR (h) (67) (v4).toNatClampNeg)]) f182_63 (by decide) rfl rfl (Nat.le_of_ble_eq_true rfl) (WF.t w 32 (by decide)) (by cases (hR (h) (67) (v4).toNatClampNeg) <;> exact Nat.le_of_ble_eq_true rfl) (p181_ok d F (h) w (hR (h) (67) (v4).toNatClampNeg) r13 hr14) ?_
            show ex _ 182 (66, [some (.ref (32)), some (.int (v1)), some (.long (v2)), none, some (.int (v4)), some (.ref (o7)), none, none], [.long (r13.1)], r13.2) = _
            refine e_lstore (ls2 := [some (.ref (32)), some (.int (v1)), some (.long (v2)), none, some (.int (v4)), some (.ref (o7)), some (.long (r13.1)), none]) f182_66 (Nat.le_of_ble_eq_true rfl) rfl ?_
            refine e_iload_n f182_68 rfl ?_
            refine e_iconst (v := -1) f182_69 (by decide) ?_
            by_cases hc15 : (v1) = (((-1)) : Int32)
            · rw [if_pos hc15] at hp
              refine e_icmp_eq_t f182_70 hc15 ?_
              refine ex_weak (ls := [some (.ref (32)), none, none, none, some (.int (v4)), none, some (.long (r13.1)), none]) (le2_ok ⟨Or.inr rfl, Or.inl rfl, Or.inl rfl, Or.inl rfl, Or.inr rfl, Or.inl rfl, Or.inr rfl, Or.inl rfl, trivial⟩) ?_
              exact p182_j109_ok d F ((p182_L7 F n)) (ih) (r13.2) ((p181_w F (h) w (hR (h) (67) (v4).toNatClampNeg)  r13 hr14)) (v4) (r13.1) _ hp
            · rw [if_neg hc15] at hp
              refine e_icmp_eq_f f182_70 hc15 ?_
              refine e_lload f182_73 rfl ?_
              refine e_lload_n f182_75 rfl ?_
              refine e_lcmp f182_76 ?_
              by_cases hc16 : (0 : Int32) < (lg_cmp (r13.1) (v2))
              · rw [if_pos hc16] at hp
                refine e_if_gt_t f182_77 hc16 ?_
                refine ex_weak (ls := [some (.ref (32)), none, none, none, some (.int (v4)), none, some (.long (r13.1)), none]) (le2_ok ⟨Or.inr rfl, Or.inl rfl, Or.inl rfl, Or.inl rfl, Or.inr rfl, Or.inl rfl, Or.inr rfl, Or.inl rfl, trivial⟩) ?_
                exact p182_j109_ok d F ((p182_L7 F n)) (ih) (r13.2) ((p181_w F (h) w (hR (h) (67) (v4).toNatClampNeg)  r13 hr14)) (v4) (r13.1) _ hp
              · rw [if_neg hc16] at hp
                refine e_if_gt_f f182_77 hc16 ?_
                refine e_lload f182_80 rfl ?_
                refine e_lload_n f182_82 rfl ?_
                refine e_lcmp f182_83 ?_
                by_cases hc17 : (lg_cmp (r13.1) (v2)) = (0 : Int32)
                · rw [if_pos hc17] at hp
                  refine e_if_ne_f f182_84 hc17 ?_
                  refine e_aload_n f182_87 rfl ?_
                  refine e_getR f182_88 (WF.t (p181_w F (h) w (hR (h) (67) (v4).toNatClampNeg)  r13 hr14) 32 (by decide)) rfl (WF.r (q := 67) (p181_w F (h) w (hR (h) (67) (v4).toNatClampNeg)  r13 hr14) 32 12 (by decide)) ?_
                  refine e_iload f182_91 rfl ?_
                  by_cases hg18 : (v4) < (0 : Int32) ∨ 30 ≤ (v4).toNatClampNeg
                  · rw [if_pos hg18] at hp; cases hp
                  rw [if_neg hg18] at hp
                  refine e_aaload f182_93 (Or.inr (Or.inr (Or.inl (WF.t (p181_w F (h) w (hR (h) (67) (v4).toNatClampNeg)  r13 hr14) 67 (by decide))))) (WF.n (p181_w F (h) w (hR (h) (67) (v4).toNatClampNeg)  r13 hr14) 67 (by decide)) hg18 ?_
                  obtain ⟨o19, ho20, hp⟩ := bind_some hp
                  try dsimp only at hp
                  rw [ho20]
                  by_cases hg21 : hT (r13.2) (o19) = 6
                  rotate_left
                  · rw [if_neg hg21] at hp; cases hp
                  rw [if_pos hg21] at hp
                  refine e_getI f182_94 hg21 (by decide) ?_
                  refine e_aload_n f182_97 rfl ?_
                  refine e_getR f182_98 (WF.t (p181_w F (h) w (hR (h) (67) (v4).toNatClampNeg)  r13 hr14) 32 (by decide)) rfl (WF.r (q := 67) (p181_w F (h) w (hR (h) (67) (v4).toNatClampNeg)  r13 hr14) 32 12 (by decide)) ?_
                  refine e_iload_n f182_101 rfl ?_
                  by_cases hg22 : (v1) < (0 : Int32) ∨ 30 ≤ (v1).toNatClampNeg
                  · rw [if_pos hg22] at hp; cases hp
                  rw [if_neg hg22] at hp
                  refine e_aaload f182_102 (Or.inr (Or.inr (Or.inl (WF.t (p181_w F (h) w (hR (h) (67) (v4).toNatClampNeg)  r13 hr14) 67 (by decide))))) (WF.n (p181_w F (h) w (hR (h) (67) (v4).toNatClampNeg)  r13 hr14) 67 (by decide)) hg22 ?_
                  obtain ⟨o23, ho24, hp⟩ := bind_some hp
                  try dsimp only at hp
                  rw [ho24]
                  by_cases hg25 : hT (r13.2) (o23) = 6
                  rotate_left
                  · rw [if_neg hg25] at hp; cases hp
                  rw [if_pos hg25] at hp
                  refine e_getI f182_103 hg25 (by decide) ?_
                  by_cases hc26 : (hI (r13.2) (o19) 3) < ((hI (r13.2) (o23) 3) : Int32)
                  · rw [if_pos hc26] at hp
                    refine e_icmp_ge_f f182_106 hc26 ?_
                    refine ex_weak (ls := [some (.ref (32)), none, none, none, some (.int (v4)), none, some (.long (r13.1)), none]) (le2_ok ⟨Or.inr rfl, Or.inl rfl, Or.inl rfl, Or.inl rfl, Or.inr rfl, Or.inl rfl, Or.inr rfl, Or.inl rfl, trivial⟩) ?_
                    exact p182_j109_ok d F ((p182_L7 F n)) (ih) (r13.2) ((p181_w F (h) w (hR (h) (67) (v4).toNatClampNeg)  r13 hr14)) (v4) (r13.1) _ hp
                  · rw [if_neg hc26] at hp
                    refine e_icmp_ge_t f182_106 hc26 ?_
                    refine ex_weak (ls := [some (.ref (32)), some (.int (v1)), some (.long (v2)), none, some (.int (v4)), none, none, none]) (le2_ok ⟨Or.inr rfl, Or.inr rfl, Or.inr rfl, Or.inl rfl, Or.inr rfl, Or.inl rfl, Or.inl rfl, Or.inl rfl, trivial⟩) ?_
                    exact p182_j115_ok d F ((p182_L7 F n)) (ih) (r13.2) ((p181_w F (h) w (hR (h) (67) (v4).toNatClampNeg)  r13 hr14)) (v1) (v2) (v4) _ hp
                · rw [if_neg hc17] at hp
                  refine e_if_ne_t f182_84 hc17 ?_
                  refine ex_weak (ls := [some (.ref (32)), some (.int (v1)), some (.long (v2)), none, some (.int (v4)), none, none, none]) (le2_ok ⟨Or.inr rfl, Or.inr rfl, Or.inr rfl, Or.inl rfl, Or.inr rfl, Or.inl rfl, Or.inl rfl, Or.inl rfl, trivial⟩) ?_
                  exact p182_j115_ok d F ((p182_L7 F n)) (ih) (r13.2) ((p181_w F (h) w (hR (h) (67) (v4).toNatClampNeg)  r13 hr14)) (v1) (v2) (v4) _ hp
          · rw [if_neg hc11] at hp
            refine e_icmp_ne_t f182_52 hc11 ?_
            refine ex_weak (ls := [some (.ref (32)), some (.int (v1)), some (.long (v2)), none, some (.int (v4)), none, none, none]) (le2_ok ⟨Or.inr rfl, Or.inr rfl, Or.inr rfl, Or.inl rfl, Or.inr rfl, Or.inl rfl, Or.inl rfl, Or.inl rfl, trivial⟩) ?_
            exact p182_j115_ok d F ((p182_L7 F n)) (ih) (h) (w) (v1) (v2) (v4) _ hp
    · rw [if_neg hc1] at hp
      refine e_icmp_ge_t f182_13 hc1 ?_
      refine e_iload_n f182_121 rfl ?_
      have hp := Option.some.inj hp
      subst hp
      exact e_ireturn f182_122 (Or.inl rfl)
set_option maxRecDepth 100000 in
set_option maxHeartbeats 4000000 in
theorem p182_L7_w (F : Nat) : ∀ (n : Nat) (h : HS) (w : WF h) (v1 : Int32) (v2 : Int64) (v4 : Int32) (r : Int32 × HS), p182_L7 F n h v1 v2 v4 = some r → WF r.2 := by
  intro n
  induction n with
  | zero => intro h w v1 v2 v4 r hp; cases hp
  | succ n ih =>
    intro h w v1 v2 v4 r hp
    unfold p182_L7 at hp
    by_cases hc1 : (v4) < ((hI (h) (32) 4) : Int32)
    · rw [if_pos hc1] at hp
      by_cases hg2 : (v4) < (0 : Int32) ∨ 30 ≤ (v4).toNatClampNeg
      · rw [if_pos hg2] at hp; cases hp
      rw [if_neg hg2] at hp
      obtain ⟨o3, ho4, hp⟩ := bind_some hp
      try dsimp only at hp
      by_cases hg5 : hT (h) (o3) = 6
      rotate_left
      · rw [if_neg hg5] at hp; cases hp
      rw [if_pos hg5] at hp
      by_cases hc6 : (hR (h) (o3) 2) = none
      · rw [if_pos hc6] at hp
        exact p182_j115_w F ((p182_L7 F n)) (ih) (h) (w) (v1) (v2) (v4) _ hp
      · rw [if_neg hc6] at hp
        obtain ⟨o7, ho8, hp⟩ := bind_some hp
        try dsimp only at hp
        by_cases hg9 : hT (h) (o7) = 9
        rotate_left
        · rw [if_neg hg9] at hp; cases hp
        rw [if_pos hg9] at hp
        by_cases hc10 : (hI (h) (o7) 2) = ((4000) : Int32)
        · rw [if_pos hc10] at hp
          exact p182_j115_w F ((p182_L7 F n)) (ih) (h) (w) (v1) (v2) (v4) _ hp
        · rw [if_neg hc10] at hp
          by_cases hc11 : (hI (h) (o7) 3) = ((4000) : Int32)
          · rw [if_pos hc11] at hp
            by_cases hg12 : (v4) < (0 : Int32) ∨ 30 ≤ (v4).toNatClampNeg
            · rw [if_pos hg12] at hp; cases hp
            rw [if_neg hg12] at hp
            obtain ⟨r13, hr14, hp⟩ := bind_some hp
            try dsimp only at hp
            by_cases hc15 : (v1) = (((-1)) : Int32)
            · rw [if_pos hc15] at hp
              exact p182_j109_w F ((p182_L7 F n)) (ih) (r13.2) ((p181_w F (h) w (hR (h) (67) (v4).toNatClampNeg)  r13 hr14)) (v4) (r13.1) _ hp
            · rw [if_neg hc15] at hp
              by_cases hc16 : (0 : Int32) < (lg_cmp (r13.1) (v2))
              · rw [if_pos hc16] at hp
                exact p182_j109_w F ((p182_L7 F n)) (ih) (r13.2) ((p181_w F (h) w (hR (h) (67) (v4).toNatClampNeg)  r13 hr14)) (v4) (r13.1) _ hp
              · rw [if_neg hc16] at hp
                by_cases hc17 : (lg_cmp (r13.1) (v2)) = (0 : Int32)
                · rw [if_pos hc17] at hp
                  by_cases hg18 : (v4) < (0 : Int32) ∨ 30 ≤ (v4).toNatClampNeg
                  · rw [if_pos hg18] at hp; cases hp
                  rw [if_neg hg18] at hp
                  obtain ⟨o19, ho20, hp⟩ := bind_some hp
                  try dsimp only at hp
                  by_cases hg21 : hT (r13.2) (o19) = 6
                  rotate_left
                  · rw [if_neg hg21] at hp; cases hp
                  rw [if_pos hg21] at hp
                  by_cases hg22 : (v1) < (0 : Int32) ∨ 30 ≤ (v1).toNatClampNeg
                  · rw [if_pos hg22] at hp; cases hp
                  rw [if_neg hg22] at hp
                  obtain ⟨o23, ho24, hp⟩ := bind_some hp
                  try dsimp only at hp
                  by_cases hg25 : hT (r13.2) (o23) = 6
                  rotate_left
                  · rw [if_neg hg25] at hp; cases hp
                  rw [if_pos hg25] at hp
                  by_cases hc26 : (hI (r13.2) (o19) 3) < ((hI (r13.2) (o23) 3) : Int32)
                  · rw [if_pos hc26] at hp
                    exact p182_j109_w F ((p182_L7 F n)) (ih) (r13.2) ((p181_w F (h) w (hR (h) (67) (v4).toNatClampNeg)  r13 hr14)) (v4) (r13.1) _ hp
                  · rw [if_neg hc26] at hp
                    exact p182_j115_w F ((p182_L7 F n)) (ih) (r13.2) ((p181_w F (h) w (hR (h) (67) (v4).toNatClampNeg)  r13 hr14)) (v1) (v2) (v4) _ hp
                · rw [if_neg hc17] at hp
                  exact p182_j115_w F ((p182_L7 F n)) (ih) (r13.2) ((p181_w F (h) w (hR (h) (67) (v4).toNatClampNeg)  r13 hr14)) (v1) (v2) (v4) _ hp
          · rw [if_neg hc11] at hp
            exact p182_j115_w F ((p182_L7 F n)) (ih) (h) (w) (v1) (v2) (v4) _ hp
    · rw [if_neg hc1] at hp
      have hp := Option.some.inj hp
      subst hp
      exact (w)
set_option maxRecDepth 100000 in
set_option maxHeartbeats 4000000 in
theorem p182_ok (d : Nat) (F : Nat) (h : HS) (w : WF h) (r : Int32 × HS) (hp : p182 F h = some r) : ex (d + 4) 182 (ent 182 [.ref (32)] h) = some (some (.int (r.1)), r.2) := by
  rw [show ent 182 [.ref (32)] h = (0, [some (.ref (32)), none, none, none, none, none, none, none], [], h) from by  rfl]
  refine ex_weak (ls := [some (.ref (32)), none, none, none, none, none, none, none]) (le2_ok ⟨Or.inr rfl, Or.inr rfl, Or.inr rfl, Or.inr rfl, Or.inr rfl, Or.inr rfl, Or.inr rfl, Or.inr rfl, trivial⟩) ?_
  unfold p182 at hp
  refine e_iconst (v := -1) f182_0 (by decide) ?_
  refine e_istore_n (ls2 := [some (.ref (32)), some (.int ((-1))), none, none, none, none, none, none]) f182_1 (Nat.le_of_ble_eq_true rfl) rfl ?_
  refine e_lconst (v := 0) f182_2 (by decide) ?_
  refine e_lstore_n (ls2 := [some (.ref (32)), some (.int ((-1))), some (.long ((0 : Int64))), none, none, none, none, none]) f182_3 (Nat.le_of_ble_eq_true rfl) rfl ?_
  refine e_iconst (v := 0) f182_4 (by decide) ?_
  refine e_istore (ls2 := [some (.ref (32)), some (.int ((-1))), some (.long ((0 : Int64))), none, some (.int (0)), none, none, none]) f182_5 (Nat.le_of_ble_eq_true rfl) rfl ?_
  refine ex_weak (ls := [some (.ref (32)), some (.int ((-1))), some (.long ((0 : Int64))), none, some (.int (0)), none, none, none]) (le2_ok ⟨Or.inr rfl, Or.inr rfl, Or.inr rfl, Or.inl rfl, Or.inr rfl, Or.inl rfl, Or.inl rfl, Or.inl rfl, trivial⟩) ?_
  exact p182_L7_ok d F F (h) (w) ((-1)) ((0 : Int64)) (0) _ hp
set_option maxRecDepth 100000 in
set_option maxHeartbeats 4000000 in
theorem p182_w (F : Nat) (h : HS) (w : WF h) (r : Int32 × HS) (hp : p182 F h = some r) : WF r.2 := by
  unfold p182 at hp
  exact p182_L7_w F F (h) (w) ((-1)) ((0 : Int64)) (0) _ hp
theorem f183_0 : fetch 183 0 = some (.aload_n 0, 0, 0, 0) := rfl
theorem f183_1 : fetch 183 1 = some (.getfield 66, 11, 12, 2) := rfl
theorem f183_4 : fetch 183 4 = some (.iload_n 1, 0, 0, 0) := rfl
theorem f183_5 : fetch 183 5 = some (.aaload, 0, 0, 0) := rfl
theorem f183_6 : fetch 183 6 = some (.getfield 376, 6, 2, 2) := rfl
theorem f183_9 : fetch 183 9 = some (.astore_n 2, 0, 0, 0) := rfl
theorem f183_10 : fetch 183 10 = some (.aload_n 2, 0, 0, 0) := rfl
theorem f183_11 : fetch 183 11 = some (.ifnonnull 4, 15, 0, 0) := rfl
theorem f183_14 : fetch 183 14 = some (.return_, 0, 0, 0) := rfl
theorem f183_15 : fetch 183 15 = some (.aload_n 0, 0, 0, 0) := rfl
theorem f183_16 : fetch 183 16 = some (.aload_n 0, 0, 0, 0) := rfl
theorem f183_17 : fetch 183 17 = some (.getfield 88, 11, 0, 0) := rfl
theorem f183_20 : fetch 183 20 = some (.invokevirtual 360, 176, 1, 0) := rfl
theorem f183_23 : fetch 183 23 = some (.astore_n 3, 0, 0, 0) := rfl
theorem f183_24 : fetch 183 24 = some (.aload_n 0, 0, 0, 0) := rfl
theorem f183_25 : fetch 183 25 = some (.aload_n 3, 0, 0, 0) := rfl
theorem f183_26 : fetch 183 26 = some (.invokevirtual 364, 177, 1, 0) := rfl
theorem f183_29 : fetch 183 29 = some (.lstore 4, 0, 0, 0) := rfl
theorem f183_31 : fetch 183 31 = some (.iconst 0, 0, 0, 0) := rfl
theorem f183_32 : fetch 183 32 = some (.istore 6, 0, 0, 0) := rfl
theorem f183_34 : fetch 183 34 = some (.iload 6, 0, 0, 0) := rfl
theorem f183_36 : fetch 183 36 = some (.aload_n 2, 0, 0, 0) := rfl
theorem f183_37 : fetch 183 37 = some (.getfield 184, 9, 7, 0) := rfl
theorem f183_40 : fetch 183 40 = some (.if_icmp .ge 36, 76, 0, 0) := rfl
theorem f183_43 : fetch 183 43 = some (.aload_n 2, 0, 0, 0) := rfl
theorem f183_44 : fetch 183 44 = some (.iload 6, 0, 0, 0) := rfl
theorem f183_46 : fetch 183 46 = some (.iload_n 1, 0, 0, 0) := rfl
theorem f183_47 : fetch 183 47 = some (.aload_n 3, 0, 0, 0) := rfl
theorem f183_48 : fetch 183 48 = some (.aload_n 0, 0, 0, 0) := rfl
theorem f183_49 : fetch 183 49 = some (.aload_n 3, 0, 0, 0) := rfl
theorem f183_50 : fetch 183 50 = some (.aload_n 0, 0, 0, 0) := rfl
theorem f183_51 : fetch 183 51 = some (.getfield 66, 11, 12, 2) := rfl
theorem f183_54 : fetch 183 54 = some (.iload_n 1, 0, 0, 0) := rfl
theorem f183_55 : fetch 183 55 = some (.aaload, 0, 0, 0) := rfl
theorem f183_56 : fetch 183 56 = some (.aload_n 2, 0, 0, 0) := rfl
theorem f183_57 : fetch 183 57 = some (.iload 6, 0, 0, 0) := rfl
theorem f183_59 : fetch 183 59 = some (.lload 4, 0, 0, 0) := rfl
theorem f183_61 : fetch 183 61 = some (.invokevirtual 368, 179, 5, 0) := rfl
theorem f183_64 : fetch 183 64 = some (.invokestatic 372, 180, 2, 1) := rfl
theorem f183_67 : fetch 183 67 = some (.invokevirtual 514, 97, 3, 0) := rfl
theorem f183_70 : fetch 183 70 = some (.iinc 6 1, 0, 0, 0) := rfl
theorem f183_73 : fetch 183 73 = some (.goto (-39), 34, 0, 0) := rfl
theorem f183_76 : fetch 183 76 = some (.return_, 0, 0, 0) := rfl
set_option maxRecDepth 100000 in
set_option maxHeartbeats 4000000 in
theorem p183_L34_ok (d : Nat) (F : Nat) (a0 : Int32) : ∀ (n : Nat) (h : HS) (w : WF h) (v2 : Option Nat) (v3 : Option Nat) (v4 : Int64) (v6 : Int32) (r : HS), p183_L34 F a0 n h v2 v3 v4 v6 = some r → ex (d + 6) 183 (34, [some (.ref (32)), some (.int (a0)), some (va_rf (v2)), some (va_rf (v3)), some (.long (v4)), none, some (.int (v6))], [], h) = some (none, r) := by
  intro n
  induction n with
  | zero => intro h w v2 v3 v4 v6 r hp; cases hp
  | succ n ih =>
    intro h w v2 v3 v4 v6 r hp
    unfold p183_L34 at hp
    refine e_iload f183_34 rfl ?_
    refine e_qload_n f183_36 rfl ?_
    obtain ⟨o12, ho13, hp⟩ := bind_some hp
    try dsimp only at hp
    rw [ho13]
    by_cases hg14 : hT (h) (o12) = 9
    rotate_left
    · rw [if_neg hg14] at hp; cases hp
    rw [if_pos hg14] at hp
    refine e_getI f183_37 hg14 (by decide) ?_
    by_cases hc15 : (v6) < ((hI (h) (o12) 7) : Int32)
    · rw [if_pos hc15] at hp
      refine e_icmp_ge_f f183_40 hc15 ?_
      refine e_aload_n f183_43 rfl ?_
      refine e_iload f183_44 rfl ?_
      refine e_iload_n f183_46 rfl ?_
      refine e_qload_n f183_47 rfl ?_
      refine e_aload_n f183_48 rfl ?_
      refine e_qload_n f183_49 rfl ?_
      refine e_aload_n f183_50 rfl ?_
      refine e_getR f183_51 (WF.t w 32 (by decide)) rfl (WF.r (q := 67) w 32 12 (by decide)) ?_
      refine e_iload_n f183_54 rfl ?_
      by_cases hg16 : (a0) < (0 : Int32) ∨ 30 ≤ (a0).toNatClampNeg
      · rw [if_pos hg16] at hp; cases hp
      rw [if_neg hg16] at hp
      refine e_aaload f183_55 (Or.inr (Or.inr (Or.inl (WF.t w 67 (by decide))))) (WF.n w 67 (by decide)) hg16 ?_
      refine e_aload_n f183_56 rfl ?_
      refine e_iload f183_57 rfl ?_
      refine e_lload f183_59 rfl ?_
      obtain ⟨r17, hr18, hp⟩ := bind_some hp
      try dsimp only at hp
      refine e_callV (st := [va_rf (v3), .int (a0), .int (v6), .ref (o12)]) (o := 32) (as := [va_rf (v3), va_rf (hR (h) (67) (a0).toNatClampNeg), .ref (o12), .int (v6), .long (v4)]) f183_61 (by decide) rfl rfl (Nat.le_of_ble_eq_true rfl) (WF.t w 32 (by decide)) (by cases (v3) <;> cases (hR (h) (67) (a0).toNatClampNeg) <;> exact Nat.le_of_ble_eq_true rfl) (p179_ok (d + 2) F (h) w (v3) (hR (h) (67) (a0).toNatClampNeg) (some (o12)) (v6) (v4) r17 hr18) ?_
      show ex _ 183 (64, [some (.ref (32)), some (.int (a0)), some (.ref (o12)), some (va_rf (v3)), some (.long (v4)), none, some (.int (v6))], [.int (r17.1), va_rf (v3), .int (a0), .int (v6), .ref (o12)], r17.2) = _
      obtain ⟨r19, hr20, hp⟩ := bind_some hp
      try dsimp only at hp
      refine e_callS (st := [.int (a0), .int (v6), .ref (o12)]) (as := [va_rf (v3), .int (r17.1)]) f183_64 (by decide) rfl rfl (Nat.le_of_ble_eq_true rfl) (by cases (v3) <;> exact Nat.le_of_ble_eq_true rfl) (p180_ok (d + 5) (r17.2) (p179_w F (h) w (v3) (hR (h) (67) (a0).toNatClampNeg) (some (o12)) (v6) (v4)  r17 hr18) (v3) (r17.1) r19 hr20) ?_
      show ex _ 183 (67, [some (.ref (32)), some (.int (a0)), some (.ref (o12)), some (va_rf (v3)), some (.long (v4)), none, some (.int (v6))], [.int (r19), .int (a0), .int (v6), .ref (o12)], r17.2) = _
      by_cases hg21 : hT (r17.2) (o12) = 9
      rotate_left
      · rw [if_neg hg21] at hp; cases hp
      rw [if_pos hg21] at hp
      obtain ⟨r22, hr23, hp⟩ := bind_some hp
      try dsimp only at hp
      refine e_callV (st := []) (o := o12) (as := [.int (v6), .int (a0), .int (r19)]) f183_67 (by decide) rfl rfl (Nat.le_of_ble_eq_true rfl) hg21 (Nat.le_of_ble_eq_true rfl) (p97_ok (d + 5) (r17.2) (p179_w F (h) w (v3) (hR (h) (67) (a0).toNatClampNeg) (some (o12)) (v6) (v4)  r17 hr18) (o12) (v6) (a0) (r19) hg21 r22 hr23) ?_
      show ex _ 183 (70, [some (.ref (32)), some (.int (a0)), some (.ref (o12)), some (va_rf (v3)), some (.long (v4)), none, some (.int (v6))], [], r22) = _
      refine e_iinc (ls2 := [some (.ref (32)), some (.int (a0)), some (.ref (o12)), some (va_rf (v3)), some (.long (v4)), none, some (.int ((v6) + 1))]) f183_70 (by decide) rfl rfl ?_
      refine e_goto f183_73 ?_
      refine ex_weak (ls := [some (.ref (32)), some (.int (a0)), some (.ref (o12)), some (va_rf (v3)), some (.long (v4)), none, some (.int ((v6) + 1))]) (le2_ok ⟨Or.inr rfl, Or.inr rfl, Or.inr rfl, Or.inr rfl, Or.inr rfl, Or.inl rfl, Or.inr rfl, trivial⟩) ?_
      exact ih (r22) ((p97_w (r17.2) (p179_w F (h) w (v3) (hR (h) (67) (a0).toNatClampNeg) (some (o12)) (v6) (v4)  r17 hr18) (o12) (v6) (a0) (r19) hg21  r22 hr23)) (some (o12)) (v3) (v4) ((v6) + 1) _ hp
    · rw [if_neg hc15] at hp
      refine e_icmp_ge_t f183_40 hc15 ?_
      have hp := Option.some.inj hp
      subst hp
      exact e_return f183_76
set_option maxRecDepth 100000 in
set_option maxHeartbeats 4000000 in
theorem p183_L34_w (F : Nat) (a0 : Int32) : ∀ (n : Nat) (h : HS) (w : WF h) (v2 : Option Nat) (v3 : Option Nat) (v4 : Int64) (v6 : Int32) (r : HS), p183_L34 F a0 n h v2 v3 v4 v6 = some r → WF r := by
  intro n
  induction n with
  | zero => intro h w v2 v3 v4 v6 r hp; cases hp
  | succ n ih =>
    intro h w v2 v3 v4 v6 r hp
    unfold p183_L34 at hp
    obtain ⟨o12, ho13, hp⟩ := bind_some hp
    try dsimp only at hp
    by_cases hg14 : hT (h) (o12) = 9
    rotate_left
    · rw [if_neg hg14] at hp; cases hp
    rw [if_pos hg14] at hp
    by_cases hc15 : (v6) < ((hI (h) (o12) 7) : Int32)
    · rw [if_pos hc15] at hp
      by_cases hg16 : (a0) < (0 : Int32) ∨ 30 ≤ (a0).toNatClampNeg
      · rw [if_pos hg16] at hp; cases hp
      rw [if_neg hg16] at hp
      obtain ⟨r17, hr18, hp⟩ := bind_some hp
      try dsimp only at hp
      obtain ⟨r19, hr20, hp⟩ := bind_some hp
      try dsimp only at hp
      by_cases hg21 : hT (r17.2) (o12) = 9
      rotate_left
      · rw [if_neg hg21] at hp; cases hp
      rw [if_pos hg21] at hp
      obtain ⟨r22, hr23, hp⟩ := bind_some hp
      try dsimp only at hp
      exact ih (r22) ((p97_w (r17.2) (p179_w F (h) w (v3) (hR (h) (67) (a0).toNatClampNeg) (some (o12)) (v6) (v4)  r17 hr18) (o12) (v6) (a0) (r19) hg21  r22 hr23)) (some (o12)) (v3) (v4) ((v6) + 1) _ hp
    · rw [if_neg hc15] at hp
      have hp := Option.some.inj hp
      subst hp
      exact (w)
set_option maxRecDepth 100000 in
set_option maxHeartbeats 4000000 in
theorem p183_ok (d : Nat) (F : Nat) (h : HS) (w : WF h) (a0 : Int32) (r : HS) (hp : p183 F h a0 = some r) : ex (d + 6) 183 (ent 183 [.ref (32), .int (a0)] h) = some (none, r) := by
  rw [show ent 183 [.ref (32), .int (a0)] h = (0, [some (.ref (32)), some (.int (a0)), none, none, none, none, none], [], h) from by  rfl]
  refine ex_weak (ls := [some (.ref (32)), some (.int (a0)), none, none, none, none, none]) (le2_ok ⟨Or.inr rfl, Or.inr rfl, Or.inr rfl, Or.inr rfl, Or.inr rfl, Or.inr rfl, Or.inr rfl, trivial⟩) ?_
  unfold p183 at hp
  refine e_aload_n f183_0 rfl ?_
  refine e_getR f183_1 (WF.t w 32 (by decide)) rfl (WF.r (q := 67) w 32 12 (by decide)) ?_
  refine e_iload_n f183_4 rfl ?_
  by_cases hg1 : (a0) < (0 : Int32) ∨ 30 ≤ (a0).toNatClampNeg
  · rw [if_pos hg1] at hp; cases hp
  rw [if_neg hg1] at hp
  refine e_aaload f183_5 (Or.inr (Or.inr (Or.inl (WF.t w 67 (by decide))))) (WF.n w 67 (by decide)) hg1 ?_
  obtain ⟨o2, ho3, hp⟩ := bind_some hp
  try dsimp only at hp
  rw [ho3]
  by_cases hg4 : hT (h) (o2) = 6
  rotate_left
  · rw [if_neg hg4] at hp; cases hp
  rw [if_pos hg4] at hp
  refine e_getQ f183_6 hg4 rfl ?_
  refine e_qstore_n (ls2 := [some (.ref (32)), some (.int (a0)), some (va_rf (hR (h) (o2) 2)), none, none, none, none]) f183_9 (Nat.le_of_ble_eq_true rfl) rfl ?_
  refine e_qload_n f183_10 rfl ?_
  by_cases hc5 : (hR (h) (o2) 2) = none
  · rw [if_pos hc5] at hp
    rw [hc5]
    refine e_ifnonnull_f f183_11 ?_
    have hp := Option.some.inj hp
    subst hp
    exact e_return f183_14
  · rw [if_neg hc5] at hp
    obtain ⟨o6, ho7, hp⟩ := bind_some hp
    try dsimp only at hp
    rw [ho7]
    refine e_ifnonnull_t f183_11 ?_
    refine e_aload_n f183_15 rfl ?_
    refine e_aload_n f183_16 rfl ?_
    refine e_getI f183_17 (WF.t w 32 (by decide)) (by decide) ?_
    obtain ⟨r8, hr9, hp⟩ := bind_some hp
    try dsimp only at hp
    refine e_callV (st := []) (o := 32) (as := [.int (hI (h) (32) 0)]) f183_20 (by decide) rfl rfl (Nat.le_of_ble_eq_true rfl) (WF.t w 32 (by decide)) (Nat.le_of_ble_eq_true rfl) (p176_ok (d + 4) F (h) w (hI (h) (32) 0) r8 hr9) ?_
    show ex _ 183 (23, [some (.ref (32)), some (.int (a0)), some (.ref (o6)), none, none, none, none], [va_rf (r8)], h) = _
    refine e_qstore_n (ls2 := [some (.ref (32)), some (.int (a0)), some (.ref (o6)), some (va_rf (r8)), none, none, none]) f183_23 (Nat.le_of_ble_eq_true rfl) rfl ?_
    refine e_aload_n f183_24 rfl ?_
    refine e_qload_n f183_25 rfl ?_
    obtain ⟨r10, hr11, hp⟩ := bind_some hp
    try dsimp only at hp
    refine e_callV (st := []) (o := 32) (as := [va_rf (r8)]) f183_26 (by decide) rfl rfl (Nat.le_of_ble_eq_true rfl) (WF.t w 32 (by decide)) (by cases (r8) <;> exact Nat.le_of_ble_eq_true rfl) (p177_ok d F (h) w (r8) r10 hr11) ?_
    show ex _ 183 (29, [some (.ref (32)), some (.int (a0)), some (.ref (o6)), some (va_rf (r8)), none, none, none], [.long (r10)], h) = _
    refine e_lstore (ls2 := [some (.ref (32)), some (.int (a0)), some (.ref (o6)), some (va_rf (r8)), some (.long (r10)), none, none]) f183_29 (Nat.le_of_ble_eq_true rfl) (by generalize r8 = z; cases z <;> rfl) ?_
    refine e_iconst (v := 0) f183_31 (by decide) ?_
    refine e_istore (ls2 := [some (.ref (32)), some (.int (a0)), some (.ref (o6)), some (va_rf (r8)), some (.long (r10)), none, some (.int (0))]) f183_32 (Nat.le_of_ble_eq_true rfl) rfl ?_
    refine ex_weak (ls := [some (.ref (32)), some (.int (a0)), some (.ref (o6)), some (va_rf (r8)), some (.long (r10)), none, some (.int (0))]) (le2_ok ⟨Or.inr rfl, Or.inr rfl, Or.inr rfl, Or.inr rfl, Or.inr rfl, Or.inl rfl, Or.inr rfl, trivial⟩) ?_
    exact p183_L34_ok d F a0 F (h) (w) (some (o6)) (r8) (r10) (0) _ hp
set_option maxRecDepth 100000 in
set_option maxHeartbeats 4000000 in
theorem p183_w (F : Nat) (h : HS) (w : WF h) (a0 : Int32) (r : HS) (hp : p183 F h a0 = some r) : WF r := by
  unfold p183 at hp
  by_cases hg1 : (a0) < (0 : Int32) ∨ 30 ≤ (a0).toNatClampNeg
  · rw [if_pos hg1] at hp; cases hp
  rw [if_neg hg1] at hp
  obtain ⟨o2, ho3, hp⟩ := bind_some hp
  try dsimp only at hp
  by_cases hg4 : hT (h) (o2) = 6
  rotate_left
  · rw [if_neg hg4] at hp; cases hp
  rw [if_pos hg4] at hp
  by_cases hc5 : (hR (h) (o2) 2) = none
  · rw [if_pos hc5] at hp
    have hp := Option.some.inj hp
    subst hp
    exact (w)
  · rw [if_neg hc5] at hp
    obtain ⟨o6, ho7, hp⟩ := bind_some hp
    try dsimp only at hp
    obtain ⟨r8, hr9, hp⟩ := bind_some hp
    try dsimp only at hp
    obtain ⟨r10, hr11, hp⟩ := bind_some hp
    try dsimp only at hp
    exact p183_L34_w F a0 F (h) (w) (some (o6)) (r8) (r10) (0) _ hp
theorem f152_0 : fetch 152 0 = some (.aload_n 0, 0, 0, 0) := rfl
theorem f152_1 : fetch 152 1 = some (.invokevirtual 392, 182, 0, 0) := rfl
theorem f152_4 : fetch 152 4 = some (.istore_n 1, 0, 0, 0) := rfl
theorem f152_5 : fetch 152 5 = some (.iload_n 1, 0, 0, 0) := rfl
theorem f152_6 : fetch 152 6 = some (.iconst (-1), 0, 0, 0) := rfl
theorem f152_7 : fetch 152 7 = some (.if_icmp .eq 18, 25, 0, 0) := rfl
theorem f152_10 : fetch 152 10 = some (.aload_n 0, 0, 0, 0) := rfl
theorem f152_11 : fetch 152 11 = some (.iload_n 1, 0, 0, 0) := rfl
theorem f152_12 : fetch 152 12 = some (.invokevirtual 395, 183, 1, 0) := rfl
theorem f152_15 : fetch 152 15 = some (.aload_n 0, 0, 0, 0) := rfl
theorem f152_16 : fetch 152 16 = some (.getfield 66, 11, 12, 2) := rfl
theorem f152_19 : fetch 152 19 = some (.iload_n 1, 0, 0, 0) := rfl
theorem f152_20 : fetch 152 20 = some (.aaload, 0, 0, 0) := rfl
theorem f152_21 : fetch 152 21 = some (.aconst_null, 0, 0, 0) := rfl
theorem f152_22 : fetch 152 22 = some (.putfield 376, 6, 2, 2) := rfl
theorem f152_25 : fetch 152 25 = some (.iload_n 1, 0, 0, 0) := rfl
theorem f152_26 : fetch 152 26 = some (.ireturn, 0, 0, 0) := rfl
set_option maxRecDepth 100000 in
set_option maxHeartbeats 4000000 in
theorem p152_ok (d : Nat) (F : Nat) (h : HS) (w : WF h) (r : Int32 × HS) (hp : p152 F h = some r) : ex (d + 7) 152 (ent 152 [.ref (32)] h) = some (some (.int (r.1)), r.2) := by
  rw [show ent 152 [.ref (32)] h = (0, [some (.ref (32)), none], [], h) from by  rfl]
  refine ex_weak (ls := [some (.ref (32)), none]) (le2_ok ⟨Or.inr rfl, Or.inr rfl, trivial⟩) ?_
  unfold p152 at hp
  refine e_aload_n f152_0 rfl ?_
  obtain ⟨r1, hr2, hp⟩ := bind_some hp
  try dsimp only at hp
  refine e_callV (st := []) (o := 32) (as := []) f152_1 (by decide) rfl rfl (Nat.le_of_ble_eq_true rfl) (WF.t w 32 (by decide)) (Nat.le_of_ble_eq_true rfl) (p182_ok (d + 2) F (h) w r1 hr2) ?_
  show ex _ 152 (4, [some (.ref (32)), none], [.int (r1.1)], r1.2) = _
  refine e_istore_n (ls2 := [some (.ref (32)), some (.int (r1.1))]) f152_4 (Nat.le_of_ble_eq_true rfl) rfl ?_
  refine e_iload_n f152_5 rfl ?_
  refine e_iconst (v := -1) f152_6 (by decide) ?_
  by_cases hc3 : (r1.1) = (((-1)) : Int32)
  · rw [if_pos hc3] at hp
    refine e_icmp_eq_t f152_7 hc3 ?_
    refine e_iload_n f152_25 rfl ?_
    have hp := Option.some.inj hp
    subst hp
    exact e_ireturn f152_26 (Or.inl rfl)
  · rw [if_neg hc3] at hp
    refine e_icmp_eq_f f152_7 hc3 ?_
    refine e_aload_n f152_10 rfl ?_
    refine e_iload_n f152_11 rfl ?_
    obtain ⟨r4, hr5, hp⟩ := bind_some hp
    try dsimp only at hp
    refine e_callV (st := []) (o := 32) (as := [.int (r1.1)]) f152_12 (by decide) rfl rfl (Nat.le_of_ble_eq_true rfl) (WF.t (p182_w F (h) w  r1 hr2) 32 (by decide)) (Nat.le_of_ble_eq_true rfl) (p183_ok d F (r1.2) (p182_w F (h) w  r1 hr2) (r1.1) r4 hr5) ?_
    show ex _ 152 (15, [some (.ref (32)), some (.int (r1.1))], [], r4) = _
    refine e_aload_n f152_15 rfl ?_
    refine e_getR f152_16 (WF.t (p183_w F (r1.2) (p182_w F (h) w  r1 hr2) (r1.1)  r4 hr5) 32 (by decide)) rfl (WF.r (q := 67) (p183_w F (r1.2) (p182_w F (h) w  r1 hr2) (r1.1)  r4 hr5) 32 12 (by decide)) ?_
    refine e_iload_n f152_19 rfl ?_
    by_cases hg6 : (r1.1) < (0 : Int32) ∨ 30 ≤ (r1.1).toNatClampNeg
    · rw [if_pos hg6] at hp; cases hp
    rw [if_neg hg6] at hp
    refine e_aaload f152_20 (Or.inr (Or.inr (Or.inl (WF.t (p183_w F (r1.2) (p182_w F (h) w  r1 hr2) (r1.1)  r4 hr5) 67 (by decide))))) (WF.n (p183_w F (r1.2) (p182_w F (h) w  r1 hr2) (r1.1)  r4 hr5) 67 (by decide)) hg6 ?_
    refine e_null f152_21 ?_
    obtain ⟨o7, ho8, hp⟩ := bind_some hp
    try dsimp only at hp
    rw [ho8]
    by_cases hg9 : hT (r4) (o7) = 6
    rotate_left
    · rw [if_neg hg9] at hp; cases hp
    rw [if_pos hg9] at hp
    refine e_putN f152_22 hg9 rfl ?_
    refine e_iload_n f152_25 rfl ?_
    have hp := Option.some.inj hp
    subst hp
    exact e_ireturn f152_26 (Or.inl rfl)
set_option maxRecDepth 100000 in
set_option maxHeartbeats 4000000 in
theorem p152_w (F : Nat) (h : HS) (w : WF h) (r : Int32 × HS) (hp : p152 F h = some r) : WF r.2 := by
  unfold p152 at hp
  obtain ⟨r1, hr2, hp⟩ := bind_some hp
  try dsimp only at hp
  by_cases hc3 : (r1.1) = (((-1)) : Int32)
  · rw [if_pos hc3] at hp
    have hp := Option.some.inj hp
    subst hp
    exact ((p182_w F (h) w  r1 hr2))
  · rw [if_neg hc3] at hp
    obtain ⟨r4, hr5, hp⟩ := bind_some hp
    try dsimp only at hp
    by_cases hg6 : (r1.1) < (0 : Int32) ∨ 30 ≤ (r1.1).toNatClampNeg
    · rw [if_pos hg6] at hp; cases hp
    rw [if_neg hg6] at hp
    obtain ⟨o7, ho8, hp⟩ := bind_some hp
    try dsimp only at hp
    by_cases hg9 : hT (r4) (o7) = 6
    rotate_left
    · rw [if_neg hg9] at hp; cases hp
    rw [if_pos hg9] at hp
    have hp := Option.some.inj hp
    subst hp
    exact ((WF.rr (j := 2) (v := none) (p183_w F (r1.2) (p182_w F (h) w  r1 hr2) (r1.1)  r4 hr5) (o7) (WF.own (p183_w F (r1.2) (p182_w F (h) w  r1 hr2) (r1.1)  r4 hr5) hg9)))
theorem f153_0 : fetch 153 0 = some (.aload_n 0, 0, 0, 0) := rfl
theorem f153_1 : fetch 153 1 = some (.iload_n 2, 0, 0, 0) := rfl
theorem f153_2 : fetch 153 2 = some (.invokevirtual 175, 170, 1, 0) := rfl
theorem f153_5 : fetch 153 5 = some (.astore 4, 0, 0, 0) := rfl
theorem f153_7 : fetch 153 7 = some (.aload_n 0, 0, 0, 0) := rfl
theorem f153_8 : fetch 153 8 = some (.iload_n 1, 0, 0, 0) := rfl
theorem f153_9 : fetch 153 9 = some (.invokevirtual 354, 173, 1, 0) := rfl
theorem f153_12 : fetch 153 12 = some (.ifCond .eq 17, 29, 0, 0) := rfl
theorem f153_15 : fetch 153 15 = some (.aload 4, 0, 0, 0) := rfl
theorem f153_17 : fetch 153 17 = some (.ifnull 12, 29, 0, 0) := rfl
theorem f153_20 : fetch 153 20 = some (.aload 4, 0, 0, 0) := rfl
theorem f153_22 : fetch 153 22 = some (.iload_n 3, 0, 0, 0) := rfl
theorem f153_23 : fetch 153 23 = some (.invokevirtual 357, 95, 1, 0) := rfl
theorem f153_26 : fetch 153 26 = some (.ifCond .ne 5, 31, 0, 0) := rfl
theorem f153_29 : fetch 153 29 = some (.iconst (-1), 0, 0, 0) := rfl
theorem f153_30 : fetch 153 30 = some (.ireturn, 0, 0, 0) := rfl
theorem f153_31 : fetch 153 31 = some (.aload 4, 0, 0, 0) := rfl
theorem f153_33 : fetch 153 33 = some (.iload_n 3, 0, 0, 0) := rfl
theorem f153_34 : fetch 153 34 = some (.iload_n 1, 0, 0, 0) := rfl
theorem f153_35 : fetch 153 35 = some (.invokevirtual 398, 98, 2, 0) := rfl
theorem f153_38 : fetch 153 38 = some (.ireturn, 0, 0, 0) := rfl
set_option maxRecDepth 100000 in
set_option maxHeartbeats 4000000 in
theorem p153_ok (d : Nat) (h : HS) (w : WF h) (a0 : Int32) (a1 : Int32) (a2 : Int32) (r : Int32) (hp : p153 h a0 a1 a2 = some r) : ex (d + 2) 153 (ent 153 [.ref (32), .int (a0), .int (a1), .int (a2)] h) = some (some (.int (r)), h) := by
  rw [show ent 153 [.ref (32), .int (a0), .int (a1), .int (a2)] h = (0, [some (.ref (32)), some (.int (a0)), some (.int (a1)), some (.int (a2)), none], [], h) from by  rfl]
  refine ex_weak (ls := [some (.ref (32)), some (.int (a0)), some (.int (a1)), some (.int (a2)), none]) (le2_ok ⟨Or.inr rfl, Or.inr rfl, Or.inr rfl, Or.inr rfl, Or.inr rfl, trivial⟩) ?_
  unfold p153 at hp
  refine e_aload_n f153_0 rfl ?_
  refine e_iload_n f153_1 rfl ?_
  obtain ⟨r1, hr2, hp⟩ := bind_some hp
  try dsimp only at hp
  refine e_callV (st := []) (o := 32) (as := [.int (a1)]) f153_2 (by decide) rfl rfl (Nat.le_of_ble_eq_true rfl) (WF.t w 32 (by decide)) (Nat.le_of_ble_eq_true rfl) (p170_ok d (h) w (a1) r1 hr2) ?_
  show ex _ 153 (5, [some (.ref (32)), some (.int (a0)), some (.int (a1)), some (.int (a2)), none], [va_rf (r1)], h) = _
  refine e_qstore (ls2 := [some (.ref (32)), some (.int (a0)), some (.int (a1)), some (.int (a2)), some (va_rf (r1))]) f153_5 (Nat.le_of_ble_eq_true rfl) rfl ?_
  refine e_aload_n f153_7 rfl ?_
  refine e_iload_n f153_8 rfl ?_
  obtain ⟨r3, hr4, hp⟩ := bind_some hp
  try dsimp only at hp
  refine e_callV (st := []) (o := 32) (as := [.int (a0)]) f153_9 (by decide) rfl rfl (Nat.le_of_ble_eq_true rfl) (WF.t w 32 (by decide)) (Nat.le_of_ble_eq_true rfl) (p173_ok d (h) w (a0) r3 hr4) ?_
  show ex _ 153 (12, [some (.ref (32)), some (.int (a0)), some (.int (a1)), some (.int (a2)), some (va_rf (r1))], [.int (r3)], h) = _
  by_cases hc5 : (r3) = (0 : Int32)
  · rw [if_pos hc5] at hp
    refine e_if_eq_t f153_12 hc5 ?_
    refine e_iconst (v := -1) f153_29 (by decide) ?_
    have hp := Option.some.inj hp
    subst hp
    exact e_ireturn f153_30 (Or.inl rfl)
  · rw [if_neg hc5] at hp
    refine e_if_eq_f f153_12 hc5 ?_
    refine e_qload f153_15 rfl ?_
    by_cases hc6 : (r1) = none
    · rw [if_pos hc6] at hp
      rw [hc6]
      refine e_ifnull_t f153_17 ?_
      refine e_iconst (v := -1) f153_29 (by decide) ?_
      have hp := Option.some.inj hp
      subst hp
      exact e_ireturn f153_30 (Or.inl rfl)
    · rw [if_neg hc6] at hp
      obtain ⟨o7, ho8, hp⟩ := bind_some hp
      try dsimp only at hp
      rw [ho8]
      refine e_ifnull_f f153_17 ?_
      refine e_aload f153_20 rfl ?_
      refine e_iload_n f153_22 rfl ?_
      by_cases hg9 : hT (h) (o7) = 9
      rotate_left
      · rw [if_neg hg9] at hp; cases hp
      rw [if_pos hg9] at hp
      obtain ⟨r10, hr11, hp⟩ := bind_some hp
      try dsimp only at hp
      refine e_callV (st := []) (o := o7) (as := [.int (a2)]) f153_23 (by decide) rfl rfl (Nat.le_of_ble_eq_true rfl) hg9 (Nat.le_of_ble_eq_true rfl) (p95_ok d (h) w (o7) (a2) hg9 r10 hr11) ?_
      show ex _ 153 (26, [some (.ref (32)), some (.int (a0)), some (.int (a1)), some (.int (a2)), some (.ref (o7))], [.int (r10)], h) = _
      by_cases hc12 : (r10) = (0 : Int32)
      · rw [if_pos hc12] at hp
        refine e_if_ne_f f153_26 hc12 ?_
        refine e_iconst (v := -1) f153_29 (by decide) ?_
        have hp := Option.some.inj hp
        subst hp
        exact e_ireturn f153_30 (Or.inl rfl)
      · rw [if_neg hc12] at hp
        refine e_if_ne_t f153_26 hc12 ?_
        refine e_aload f153_31 rfl ?_
        refine e_iload_n f153_33 rfl ?_
        refine e_iload_n f153_34 rfl ?_
        obtain ⟨r13, hr14, hp⟩ := bind_some hp
        try dsimp only at hp
        refine e_callV (st := []) (o := o7) (as := [.int (a2), .int (a0)]) f153_35 (by decide) rfl rfl (Nat.le_of_ble_eq_true rfl) hg9 (Nat.le_of_ble_eq_true rfl) (p98_ok (d + 1) (h) w (o7) (a2) (a0) hg9 r13 hr14) ?_
        show ex _ 153 (38, [some (.ref (32)), some (.int (a0)), some (.int (a1)), some (.int (a2)), some (.ref (o7))], [.int (r13)], h) = _
        have hp := Option.some.inj hp
        subst hp
        exact e_ireturn f153_38 (Or.inl rfl)
theorem f154_0 : fetch 154 0 = some (.aload_n 0, 0, 0, 0) := rfl
theorem f154_1 : fetch 154 1 = some (.iload_n 1, 0, 0, 0) := rfl
theorem f154_2 : fetch 154 2 = some (.invokevirtual 354, 173, 1, 0) := rfl
theorem f154_5 : fetch 154 5 = some (.ifCond .eq 27, 32, 0, 0) := rfl
theorem f154_8 : fetch 154 8 = some (.aload_n 0, 0, 0, 0) := rfl
theorem f154_9 : fetch 154 9 = some (.getfield 38, 11, 8, 2) := rfl
theorem f154_12 : fetch 154 12 = some (.iload_n 2, 0, 0, 0) := rfl
theorem f154_13 : fetch 154 13 = some (.invokevirtual 242, 2, 1, 0) := rfl
theorem f154_16 : fetch 154 16 = some (.ifCond .eq 16, 32, 0, 0) := rfl
theorem f154_19 : fetch 154 19 = some (.iload_n 3, 0, 0, 0) := rfl
theorem f154_20 : fetch 154 20 = some (.iconst (-1), 0, 0, 0) := rfl
theorem f154_21 : fetch 154 21 = some (.if_icmp .eq 13, 34, 0, 0) := rfl
theorem f154_24 : fetch 154 24 = some (.aload_n 0, 0, 0, 0) := rfl
theorem f154_25 : fetch 154 25 = some (.iload_n 3, 0, 0, 0) := rfl
theorem f154_26 : fetch 154 26 = some (.invokevirtual 175, 170, 1, 0) := rfl
theorem f154_29 : fetch 154 29 = some (.ifnonnull 5, 34, 0, 0) := rfl
theorem f154_32 : fetch 154 32 = some (.iconst (-1), 0, 0, 0) := rfl
theorem f154_33 : fetch 154 33 = some (.ireturn, 0, 0, 0) := rfl
theorem f154_34 : fetch 154 34 = some (.aload_n 0, 0, 0, 0) := rfl
theorem f154_35 : fetch 154 35 = some (.getfield 38, 11, 8, 2) := rfl
theorem f154_38 : fetch 154 38 = some (.iload_n 1, 0, 0, 0) := rfl
theorem f154_39 : fetch 154 39 = some (.iload_n 2, 0, 0, 0) := rfl
theorem f154_40 : fetch 154 40 = some (.iload_n 3, 0, 0, 0) := rfl
theorem f154_41 : fetch 154 41 = some (.aload_n 0, 0, 0, 0) := rfl
theorem f154_42 : fetch 154 42 = some (.getfield 88, 11, 0, 0) := rfl
theorem f154_45 : fetch 154 45 = some (.invokevirtual 401, 23, 4, 0) := rfl
theorem f154_48 : fetch 154 48 = some (.invokestatic 273, 307, 1, 1) := rfl
theorem f154_51 : fetch 154 51 = some (.ireturn, 0, 0, 0) := rfl
set_option maxRecDepth 100000 in
set_option maxHeartbeats 4000000 in
theorem p154_j34_ok (d : Nat) (F : Nat) (a0 : Int32) (a1 : Int32) (a2 : Int32) (h : HS) (w : WF h)  (r : Int32) (hp : p154_j34 F a0 a1 a2 h = some r) : ex (d + 3) 154 (34, [some (.ref (32)), some (.int (a0)), some (.int (a1)), some (.int (a2))], [], h) = some (some (.int (r)), h) := by
  unfold p154_j34 at hp
  refine e_aload_n f154_34 rfl ?_
  refine e_getR f154_35 (WF.t w 32 (by decide)) rfl (WF.r (q := 50) w 32 8 (by decide)) ?_
  refine e_iload_n f154_38 rfl ?_
  refine e_iload_n f154_39 rfl ?_
  refine e_iload_n f154_40 rfl ?_
  refine e_aload_n f154_41 rfl ?_
  refine e_getI f154_42 (WF.t w 32 (by decide)) (by decide) ?_
  obtain ⟨r13, hr14, hp⟩ := bind_some hp
  try dsimp only at hp
  refine e_callV (st := []) (o := 50) (as := [.int (a0), .int (a1), .int (a2), .int (hI (h) (32) 0)]) f154_45 (by decide) rfl rfl (Nat.le_of_ble_eq_true rfl) (WF.t w 50 (by decide)) (Nat.le_of_ble_eq_true rfl) (p23_ok d F (h) w (a0) (a1) (a2) (hI (h) (32) 0) r13 hr14) ?_
  show ex _ 154 (48, [some (.ref (32)), some (.int (a0)), some (.int (a1)), some (.int (a2))], [.long (r13)], h) = _
  obtain ⟨r15, hr16, hp⟩ := bind_some hp
  try dsimp only at hp
  refine e_callS (st := []) (as := [.long (r13)]) f154_48 (by decide) rfl rfl (Nat.le_of_ble_eq_true rfl) (Nat.le_of_ble_eq_true rfl) (p307_ok (d + 2) (h) w (r13) r15 hr16) ?_
  show ex _ 154 (51, [some (.ref (32)), some (.int (a0)), some (.int (a1)), some (.int (a2))], [.int (r15)], h) = _
  have hp := Option.some.inj hp
  subst hp
  exact e_ireturn f154_51 (Or.inl rfl)
set_option maxRecDepth 100000 in
set_option maxHeartbeats 4000000 in
theorem p154_ok (d : Nat) (F : Nat) (h : HS) (w : WF h) (a0 : Int32) (a1 : Int32) (a2 : Int32) (r : Int32) (hp : p154 F h a0 a1 a2 = some r) : ex (d + 3) 154 (ent 154 [.ref (32), .int (a0), .int (a1), .int (a2)] h) = some (some (.int (r)), h) := by
  rw [show ent 154 [.ref (32), .int (a0), .int (a1), .int (a2)] h = (0, [some (.ref (32)), some (.int (a0)), some (.int (a1)), some (.int (a2))], [], h) from by  rfl]
  refine ex_weak (ls := [some (.ref (32)), some (.int (a0)), some (.int (a1)), some (.int (a2))]) (le2_ok ⟨Or.inr rfl, Or.inr rfl, Or.inr rfl, Or.inr rfl, trivial⟩) ?_
  unfold p154 at hp
  refine e_aload_n f154_0 rfl ?_
  refine e_iload_n f154_1 rfl ?_
  obtain ⟨r1, hr2, hp⟩ := bind_some hp
  try dsimp only at hp
  refine e_callV (st := []) (o := 32) (as := [.int (a0)]) f154_2 (by decide) rfl rfl (Nat.le_of_ble_eq_true rfl) (WF.t w 32 (by decide)) (Nat.le_of_ble_eq_true rfl) (p173_ok (d + 1) (h) w (a0) r1 hr2) ?_
  show ex _ 154 (5, [some (.ref (32)), some (.int (a0)), some (.int (a1)), some (.int (a2))], [.int (r1)], h) = _
  by_cases hc3 : (r1) = (0 : Int32)
  · rw [if_pos hc3] at hp
    refine e_if_eq_t f154_5 hc3 ?_
    refine e_iconst (v := -1) f154_32 (by decide) ?_
    have hp := Option.some.inj hp
    subst hp
    exact e_ireturn f154_33 (Or.inl rfl)
  · rw [if_neg hc3] at hp
    refine e_if_eq_f f154_5 hc3 ?_
    refine e_aload_n f154_8 rfl ?_
    refine e_getR f154_9 (WF.t w 32 (by decide)) rfl (WF.r (q := 50) w 32 8 (by decide)) ?_
    refine e_iload_n f154_12 rfl ?_
    obtain ⟨r4, hr5, hp⟩ := bind_some hp
    try dsimp only at hp
    refine e_callV (st := []) (o := 50) (as := [.int (a1)]) f154_13 (by decide) rfl rfl (Nat.le_of_ble_eq_true rfl) (WF.t w 50 (by decide)) (Nat.le_of_ble_eq_true rfl) (p2_ok (d + 1) (h) w (a1) r4 hr5) ?_
    show ex _ 154 (16, [some (.ref (32)), some (.int (a0)), some (.int (a1)), some (.int (a2))], [.int (r4)], h) = _
    by_cases hc6 : (r4) = (0 : Int32)
    · rw [if_pos hc6] at hp
      refine e_if_eq_t f154_16 hc6 ?_
      refine e_iconst (v := -1) f154_32 (by decide) ?_
      have hp := Option.some.inj hp
      subst hp
      exact e_ireturn f154_33 (Or.inl rfl)
    · rw [if_neg hc6] at hp
      refine e_if_eq_f f154_16 hc6 ?_
      refine e_iload_n f154_19 rfl ?_
      refine e_iconst (v := -1) f154_20 (by decide) ?_
      by_cases hc7 : (a2) = (((-1)) : Int32)
      · rw [if_pos hc7] at hp
        refine e_icmp_eq_t f154_21 hc7 ?_
        refine ex_weak (ls := [some (.ref (32)), some (.int (a0)), some (.int (a1)), some (.int (a2))]) (le2_ok ⟨Or.inr rfl, Or.inr rfl, Or.inr rfl, Or.inr rfl, trivial⟩) ?_
        exact p154_j34_ok d F a0 a1 a2 (h) (w)  _ hp
      · rw [if_neg hc7] at hp
        refine e_icmp_eq_f f154_21 hc7 ?_
        refine e_aload_n f154_24 rfl ?_
        refine e_iload_n f154_25 rfl ?_
        obtain ⟨r8, hr9, hp⟩ := bind_some hp
        try dsimp only at hp
        refine e_callV (st := []) (o := 32) (as := [.int (a2)]) f154_26 (by decide) rfl rfl (Nat.le_of_ble_eq_true rfl) (WF.t w 32 (by decide)) (Nat.le_of_ble_eq_true rfl) (p170_ok (d + 1) (h) w (a2) r8 hr9) ?_
        show ex _ 154 (29, [some (.ref (32)), some (.int (a0)), some (.int (a1)), some (.int (a2))], [va_rf (r8)], h) = _
        by_cases hc10 : (r8) = none
        · rw [if_pos hc10] at hp
          rw [hc10]
          refine e_ifnonnull_f f154_29 ?_
          refine e_iconst (v := -1) f154_32 (by decide) ?_
          have hp := Option.some.inj hp
          subst hp
          exact e_ireturn f154_33 (Or.inl rfl)
        · rw [if_neg hc10] at hp
          obtain ⟨o11, ho12, hp⟩ := bind_some hp
          try dsimp only at hp
          rw [ho12]
          refine e_ifnonnull_t f154_29 ?_
          refine ex_weak (ls := [some (.ref (32)), some (.int (a0)), some (.int (a1)), some (.int (a2))]) (le2_ok ⟨Or.inr rfl, Or.inr rfl, Or.inr rfl, Or.inr rfl, trivial⟩) ?_
          exact p154_j34_ok d F a0 a1 a2 (h) (w)  _ hp
theorem f155_0 : fetch 155 0 = some (.aload_n 0, 0, 0, 0) := rfl
theorem f155_1 : fetch 155 1 = some (.getfield 38, 11, 8, 2) := rfl
theorem f155_4 : fetch 155 4 = some (.iload_n 1, 0, 0, 0) := rfl
theorem f155_5 : fetch 155 5 = some (.invokevirtual 202, 1, 1, 0) := rfl
theorem f155_8 : fetch 155 8 = some (.ifCond .eq 14, 22, 0, 0) := rfl
theorem f155_11 : fetch 155 11 = some (.aload_n 0, 0, 0, 0) := rfl
theorem f155_12 : fetch 155 12 = some (.getfield 38, 11, 8, 2) := rfl
theorem f155_15 : fetch 155 15 = some (.iload_n 2, 0, 0, 0) := rfl
theorem f155_16 : fetch 155 16 = some (.invokevirtual 242, 2, 1, 0) := rfl
theorem f155_19 : fetch 155 19 = some (.ifCond .ne 5, 24, 0, 0) := rfl
theorem f155_22 : fetch 155 22 = some (.iconst (-1), 0, 0, 0) := rfl
theorem f155_23 : fetch 155 23 = some (.ireturn, 0, 0, 0) := rfl
theorem f155_24 : fetch 155 24 = some (.aload_n 0, 0, 0, 0) := rfl
theorem f155_25 : fetch 155 25 = some (.getfield 73, 11, 13, 2) := rfl
theorem f155_28 : fetch 155 28 = some (.iload_n 1, 0, 0, 0) := rfl
theorem f155_29 : fetch 155 29 = some (.iload_n 2, 0, 0, 0) := rfl
theorem f155_30 : fetch 155 30 = some (.aload_n 0, 0, 0, 0) := rfl
theorem f155_31 : fetch 155 31 = some (.getfield 88, 11, 0, 0) := rfl
theorem f155_34 : fetch 155 34 = some (.invokevirtual 405, 63, 3, 0) := rfl
theorem f155_37 : fetch 155 37 = some (.ireturn, 0, 0, 0) := rfl
set_option maxRecDepth 100000 in
set_option maxHeartbeats 4000000 in
theorem p155_ok (d : Nat) (h : HS) (w : WF h) (a0 : Int32) (a1 : Int32) (r : Int32 × HS) (hp : p155 h a0 a1 = some r) : ex (d + 2) 155 (ent 155 [.ref (32), .int (a0), .int (a1)] h) = some (some (.int (r.1)), r.2) := by
  rw [show ent 155 [.ref (32), .int (a0), .int (a1)] h = (0, [some (.ref (32)), some (.int (a0)), some (.int (a1))], [], h) from by  rfl]
  refine ex_weak (ls := [some (.ref (32)), some (.int (a0)), some (.int (a1))]) (le2_ok ⟨Or.inr rfl, Or.inr rfl, Or.inr rfl, trivial⟩) ?_
  unfold p155 at hp
  refine e_aload_n f155_0 rfl ?_
  refine e_getR f155_1 (WF.t w 32 (by decide)) rfl (WF.r (q := 50) w 32 8 (by decide)) ?_
  refine e_iload_n f155_4 rfl ?_
  obtain ⟨r1, hr2, hp⟩ := bind_some hp
  try dsimp only at hp
  refine e_callV (st := []) (o := 50) (as := [.int (a0)]) f155_5 (by decide) rfl rfl (Nat.le_of_ble_eq_true rfl) (WF.t w 50 (by decide)) (Nat.le_of_ble_eq_true rfl) (p1_ok d (h) w (a0) r1 hr2) ?_
  show ex _ 155 (8, [some (.ref (32)), some (.int (a0)), some (.int (a1))], [.int (r1)], h) = _
  by_cases hc3 : (r1) = (0 : Int32)
  · rw [if_pos hc3] at hp
    refine e_if_eq_t f155_8 hc3 ?_
    refine e_iconst (v := -1) f155_22 (by decide) ?_
    have hp := Option.some.inj hp
    subst hp
    exact e_ireturn f155_23 (Or.inl rfl)
  · rw [if_neg hc3] at hp
    refine e_if_eq_f f155_8 hc3 ?_
    refine e_aload_n f155_11 rfl ?_
    refine e_getR f155_12 (WF.t w 32 (by decide)) rfl (WF.r (q := 50) w 32 8 (by decide)) ?_
    refine e_iload_n f155_15 rfl ?_
    obtain ⟨r4, hr5, hp⟩ := bind_some hp
    try dsimp only at hp
    refine e_callV (st := []) (o := 50) (as := [.int (a1)]) f155_16 (by decide) rfl rfl (Nat.le_of_ble_eq_true rfl) (WF.t w 50 (by decide)) (Nat.le_of_ble_eq_true rfl) (p2_ok d (h) w (a1) r4 hr5) ?_
    show ex _ 155 (19, [some (.ref (32)), some (.int (a0)), some (.int (a1))], [.int (r4)], h) = _
    by_cases hc6 : (r4) = (0 : Int32)
    · rw [if_pos hc6] at hp
      refine e_if_ne_f f155_19 hc6 ?_
      refine e_iconst (v := -1) f155_22 (by decide) ?_
      have hp := Option.some.inj hp
      subst hp
      exact e_ireturn f155_23 (Or.inl rfl)
    · rw [if_neg hc6] at hp
      refine e_if_ne_t f155_19 hc6 ?_
      refine e_aload_n f155_24 rfl ?_
      refine e_getR f155_25 (WF.t w 32 (by decide)) rfl (WF.r (q := 68) w 32 13 (by decide)) ?_
      refine e_iload_n f155_28 rfl ?_
      refine e_iload_n f155_29 rfl ?_
      refine e_aload_n f155_30 rfl ?_
      refine e_getI f155_31 (WF.t w 32 (by decide)) (by decide) ?_
      obtain ⟨r7, hr8, hp⟩ := bind_some hp
      try dsimp only at hp
      refine e_callV (st := []) (o := 68) (as := [.int (a0), .int (a1), .int (hI (h) (32) 0)]) f155_34 (by decide) rfl rfl (Nat.le_of_ble_eq_true rfl) (WF.t w 68 (by decide)) (Nat.le_of_ble_eq_true rfl) (p63_ok (d + 1) (h) w (a0) (a1) (hI (h) (32) 0) r7 hr8) ?_
      show ex _ 155 (37, [some (.ref (32)), some (.int (a0)), some (.int (a1))], [.int (r7.1)], r7.2) = _
      have hp := Option.some.inj hp
      subst hp
      exact e_ireturn f155_37 (Or.inl rfl)
set_option maxRecDepth 100000 in
set_option maxHeartbeats 4000000 in
theorem p155_w (h : HS) (w : WF h) (a0 : Int32) (a1 : Int32) (r : Int32 × HS) (hp : p155 h a0 a1 = some r) : WF r.2 := by
  unfold p155 at hp
  obtain ⟨r1, hr2, hp⟩ := bind_some hp
  try dsimp only at hp
  by_cases hc3 : (r1) = (0 : Int32)
  · rw [if_pos hc3] at hp
    have hp := Option.some.inj hp
    subst hp
    exact (w)
  · rw [if_neg hc3] at hp
    obtain ⟨r4, hr5, hp⟩ := bind_some hp
    try dsimp only at hp
    by_cases hc6 : (r4) = (0 : Int32)
    · rw [if_pos hc6] at hp
      have hp := Option.some.inj hp
      subst hp
      exact (w)
    · rw [if_neg hc6] at hp
      obtain ⟨r7, hr8, hp⟩ := bind_some hp
      try dsimp only at hp
      have hp := Option.some.inj hp
      subst hp
      exact ((p63_w (h) w (a0) (a1) (hI (h) (32) 0)  r7 hr8))
theorem f184_0 : fetch 184 0 = some (.aload_n 0, 0, 0, 0) := rfl
theorem f184_1 : fetch 184 1 = some (.iload_n 2, 0, 0, 0) := rfl
theorem f184_2 : fetch 184 2 = some (.invokevirtual 360, 176, 1, 0) := rfl
theorem f184_5 : fetch 184 5 = some (.astore_n 3, 0, 0, 0) := rfl
theorem f184_6 : fetch 184 6 = some (.aload_n 3, 0, 0, 0) := rfl
theorem f184_7 : fetch 184 7 = some (.ifnonnull 6, 13, 0, 0) := rfl
theorem f184_10 : fetch 184 10 = some (.bipush 99, 0, 0, 0) := rfl
theorem f184_12 : fetch 184 12 = some (.ireturn, 0, 0, 0) := rfl
theorem f184_13 : fetch 184 13 = some (.aload_n 0, 0, 0, 0) := rfl
theorem f184_14 : fetch 184 14 = some (.getfield 84, 11, 15, 2) := rfl
theorem f184_17 : fetch 184 17 = some (.lconst 0, 0, 0, 0) := rfl
theorem f184_18 : fetch 184 18 = some (.invokestatic 486, 311, 2, 1) := rfl
theorem f184_21 : fetch 184 21 = some (.aload_n 0, 0, 0, 0) := rfl
theorem f184_22 : fetch 184 22 = some (.getfield 84, 11, 15, 2) := rfl
theorem f184_25 : fetch 184 25 = some (.bipush 8, 0, 0, 0) := rfl
theorem f184_27 : fetch 184 27 = some (.aload_n 0, 0, 0, 0) := rfl
theorem f184_28 : fetch 184 28 = some (.getfield 38, 11, 8, 2) := rfl
theorem f184_31 : fetch 184 31 = some (.iload_n 1, 0, 0, 0) := rfl
theorem f184_32 : fetch 184 32 = some (.iload_n 2, 0, 0, 0) := rfl
theorem f184_33 : fetch 184 33 = some (.invokevirtual 518, 14, 2, 0) := rfl
theorem f184_36 : fetch 184 36 = some (.i2l, 0, 0, 0) := rfl
theorem f184_37 : fetch 184 37 = some (.lastore, 0, 0, 0) := rfl
theorem f184_38 : fetch 184 38 = some (.aload_n 0, 0, 0, 0) := rfl
theorem f184_39 : fetch 184 39 = some (.getfield 84, 11, 15, 2) := rfl
theorem f184_42 : fetch 184 42 = some (.bipush 9, 0, 0, 0) := rfl
theorem f184_44 : fetch 184 44 = some (.aload_n 0, 0, 0, 0) := rfl
theorem f184_45 : fetch 184 45 = some (.getfield 38, 11, 8, 2) := rfl
theorem f184_48 : fetch 184 48 = some (.iload_n 1, 0, 0, 0) := rfl
theorem f184_49 : fetch 184 49 = some (.iload_n 2, 0, 0, 0) := rfl
theorem f184_50 : fetch 184 50 = some (.invokevirtual 521, 15, 2, 0) := rfl
theorem f184_53 : fetch 184 53 = some (.i2l, 0, 0, 0) := rfl
theorem f184_54 : fetch 184 54 = some (.lastore, 0, 0, 0) := rfl
theorem f184_55 : fetch 184 55 = some (.aload_n 0, 0, 0, 0) := rfl
theorem f184_56 : fetch 184 56 = some (.getfield 84, 11, 15, 2) := rfl
theorem f184_59 : fetch 184 59 = some (.bipush 10, 0, 0, 0) := rfl
theorem f184_61 : fetch 184 61 = some (.iload_n 2, 0, 0, 0) := rfl
theorem f184_62 : fetch 184 62 = some (.i2l, 0, 0, 0) := rfl
theorem f184_63 : fetch 184 63 = some (.lastore, 0, 0, 0) := rfl
theorem f184_64 : fetch 184 64 = some (.aload_n 3, 0, 0, 0) := rfl
theorem f184_65 : fetch 184 65 = some (.sipush 10022, 0, 0, 0) := rfl
theorem f184_68 : fetch 184 68 = some (.aload_n 0, 0, 0, 0) := rfl
theorem f184_69 : fetch 184 69 = some (.getfield 84, 11, 15, 2) := rfl
theorem f184_72 : fetch 184 72 = some (.invokevirtual 503, 25, 2, 0) := rfl
theorem f184_75 : fetch 184 75 = some (.istore 4, 0, 0, 0) := rfl
theorem f184_77 : fetch 184 77 = some (.iload 4, 0, 0, 0) := rfl
theorem f184_79 : fetch 184 79 = some (.iconst (-1), 0, 0, 0) := rfl
theorem f184_80 : fetch 184 80 = some (.if_icmp .ne 8, 88, 0, 0) := rfl
theorem f184_83 : fetch 184 83 = some (.bipush 99, 0, 0, 0) := rfl
theorem f184_85 : fetch 184 85 = some (.goto 10, 95, 0, 0) := rfl
theorem f184_88 : fetch 184 88 = some (.aload_n 3, 0, 0, 0) := rfl
theorem f184_89 : fetch 184 89 = some (.getfield 507, 1, 2, 2) := rfl
theorem f184_92 : fetch 184 92 = some (.iload 4, 0, 0, 0) := rfl
theorem f184_94 : fetch 184 94 = some (.iaload, 0, 0, 0) := rfl
theorem f184_95 : fetch 184 95 = some (.ireturn, 0, 0, 0) := rfl
set_option maxRecDepth 100000 in
set_option maxHeartbeats 4000000 in
theorem p184_ok (d : Nat) (F : Nat) (h : HS) (w : WF h) (a0 : Int32) (a1 : Int32) (r : Int32 × HS) (hp : p184 F h a0 a1 = some r) : ex (d + 3) 184 (ent 184 [.ref (32), .int (a0), .int (a1)] h) = some (some (.int (r.1)), r.2) := by
  rw [show ent 184 [.ref (32), .int (a0), .int (a1)] h = (0, [some (.ref (32)), some (.int (a0)), some (.int (a1)), none, none], [], h) from by  rfl]
  refine ex_weak (ls := [some (.ref (32)), some (.int (a0)), some (.int (a1)), none, none]) (le2_ok ⟨Or.inr rfl, Or.inr rfl, Or.inr rfl, Or.inr rfl, Or.inr rfl, trivial⟩) ?_
  unfold p184 at hp
  refine e_aload_n f184_0 rfl ?_
  refine e_iload_n f184_1 rfl ?_
  obtain ⟨r1, hr2, hp⟩ := bind_some hp
  try dsimp only at hp
  refine e_callV (st := []) (o := 32) (as := [.int (a1)]) f184_2 (by decide) rfl rfl (Nat.le_of_ble_eq_true rfl) (WF.t w 32 (by decide)) (Nat.le_of_ble_eq_true rfl) (p176_ok (d + 1) F (h) w (a1) r1 hr2) ?_
  show ex _ 184 (5, [some (.ref (32)), some (.int (a0)), some (.int (a1)), none, none], [va_rf (r1)], h) = _
  refine e_qstore_n (ls2 := [some (.ref (32)), some (.int (a0)), some (.int (a1)), some (va_rf (r1)), none]) f184_5 (Nat.le_of_ble_eq_true rfl) rfl ?_
  refine e_qload_n f184_6 rfl ?_
  by_cases hc3 : (r1) = none
  · rw [if_pos hc3] at hp
    rw [hc3]
    refine e_ifnonnull_f f184_7 ?_
    refine e_bipush (v := 99) f184_10 (by decide) ?_
    have hp := Option.some.inj hp
    subst hp
    exact e_ireturn f184_12 (Or.inl rfl)
  · rw [if_neg hc3] at hp
    obtain ⟨o4, ho5, hp⟩ := bind_some hp
    try dsimp only at hp
    rw [ho5]
    refine e_ifnonnull_t f184_7 ?_
    refine e_aload_n f184_13 rfl ?_
    refine e_getR f184_14 (WF.t w 32 (by decide)) rfl (WF.r (q := 85) w 32 15 (by decide)) ?_
    refine e_lconst (v := 0) f184_17 (by decide) ?_
    obtain ⟨r6, hr7, hp⟩ := bind_some hp
    try dsimp only at hp
    refine e_callS (st := []) (as := [.ref (85), .long ((0 : Int64))]) f184_18 (by decide) rfl rfl (Nat.le_of_ble_eq_true rfl) (Nat.le_of_ble_eq_true rfl) (p311_ok (d + 2) F (h) w (some (85)) ((0 : Int64)) r6 hr7) ?_
    show ex _ 184 (21, [some (.ref (32)), some (.int (a0)), some (.int (a1)), some (.ref (o4)), none], [], r6) = _
    refine e_aload_n f184_21 rfl ?_
    refine e_getR f184_22 (WF.t (p311_w F (h) w (some (85)) ((0 : Int64))  r6 hr7) 32 (by decide)) rfl (WF.r (q := 85) (p311_w F (h) w (some (85)) ((0 : Int64))  r6 hr7) 32 15 (by decide)) ?_
    refine e_bipush (v := 8) f184_25 (by decide) ?_
    refine e_aload_n f184_27 rfl ?_
    refine e_getR f184_28 (WF.t (p311_w F (h) w (some (85)) ((0 : Int64))  r6 hr7) 32 (by decide)) rfl (WF.r (q := 50) (p311_w F (h) w (some (85)) ((0 : Int64))  r6 hr7) 32 8 (by decide)) ?_
    refine e_iload_n f184_31 rfl ?_
    refine e_iload_n f184_32 rfl ?_
    obtain ⟨r8, hr9, hp⟩ := bind_some hp
    try dsimp only at hp
    refine e_callV (st := [.int (8), .ref (85)]) (o := 50) (as := [.int (a0), .int (a1)]) f184_33 (by decide) rfl rfl (Nat.le_of_ble_eq_true rfl) (WF.t (p311_w F (h) w (some (85)) ((0 : Int64))  r6 hr7) 50 (by decide)) (Nat.le_of_ble_eq_true rfl) (p14_ok d F (r6) (p311_w F (h) w (some (85)) ((0 : Int64))  r6 hr7) (a0) (a1) r8 hr9) ?_
    show ex _ 184 (36, [some (.ref (32)), some (.int (a0)), some (.int (a1)), some (.ref (o4)), none], [.int (r8), .int (8), .ref (85)], r6) = _
    refine e_i2l f184_36 ?_
    by_cases hg10 : (8) < (0 : Int32) ∨ 11 ≤ (8 : Int32).toNatClampNeg
    · rw [if_pos hg10] at hp; cases hp
    rw [if_neg hg10] at hp
    refine e_lastore f184_37 (WF.t (p311_w F (h) w (some (85)) ((0 : Int64))  r6 hr7) 85 (by decide)) (WF.n (p311_w F (h) w (some (85)) ((0 : Int64))  r6 hr7) 85 (by decide)) hg10 ?_
    refine e_aload_n f184_38 rfl ?_
    refine e_getR f184_39 (WF.t (p311_w F (h) w (some (85)) ((0 : Int64))  r6 hr7) 32 (by decide)) rfl (WF.r (q := 85) (p311_w F (h) w (some (85)) ((0 : Int64))  r6 hr7) 32 15 (by decide)) ?_
    refine e_bipush (v := 9) f184_42 (by decide) ?_
    refine e_aload_n f184_44 rfl ?_
    refine e_getR f184_45 (WF.t (p311_w F (h) w (some (85)) ((0 : Int64))  r6 hr7) 32 (by decide)) rfl (WF.r (q := 50) (p311_w F (h) w (some (85)) ((0 : Int64))  r6 hr7) 32 8 (by decide)) ?_
    refine e_iload_n f184_48 rfl ?_
    refine e_iload_n f184_49 rfl ?_
    obtain ⟨r11, hr12, hp⟩ := bind_some hp
    try dsimp only at hp
    refine e_callV (st := [.int (9), .ref (85)]) (o := 50) (as := [.int (a0), .int (a1)]) f184_50 (by decide) rfl rfl (Nat.le_of_ble_eq_true rfl) (WF.t (p311_w F (h) w (some (85)) ((0 : Int64))  r6 hr7) 50 (by decide)) (Nat.le_of_ble_eq_true rfl) (p15_ok d F (hsL (r6) (85) (8 : Int32).toNatClampNeg ((r8).toInt64)) (p311_w F (h) w (some (85)) ((0 : Int64))  r6 hr7) (a0) (a1) r11 hr12) ?_
    show ex _ 184 (53, [some (.ref (32)), some (.int (a0)), some (.int (a1)), some (.ref (o4)), none], [.int (r11), .int (9), .ref (85)], hsL (r6) (85) (8 : Int32).toNatClampNeg ((r8).toInt64)) = _
    refine e_i2l f184_53 ?_
    by_cases hg13 : (9) < (0 : Int32) ∨ 11 ≤ (9 : Int32).toNatClampNeg
    · rw [if_pos hg13] at hp; cases hp
    rw [if_neg hg13] at hp
    refine e_lastore f184_54 (WF.t (p311_w F (h) w (some (85)) ((0 : Int64))  r6 hr7) 85 (by decide)) (WF.n (p311_w F (h) w (some (85)) ((0 : Int64))  r6 hr7) 85 (by decide)) hg13 ?_
    obtain ⟨h14, e15, hp⟩ := bind_some hp
    try dsimp only at hp
    have e15 := Option.some.inj e15
    have w16 : WF h14 := e15 ▸ (p311_w F (h) w (some (85)) ((0 : Int64))  r6 hr7)
    rw [e15]
    refine e_aload_n f184_55 rfl ?_
    refine e_getR f184_56 (WF.t w16 32 (by decide)) rfl (WF.r (q := 85) w16 32 15 (by decide)) ?_
    refine e_bipush (v := 10) f184_59 (by decide) ?_
    refine e_iload_n f184_61 rfl ?_
    refine e_i2l f184_62 ?_
    by_cases hg17 : (10) < (0 : Int32) ∨ 11 ≤ (10 : Int32).toNatClampNeg
    · rw [if_pos hg17] at hp; cases hp
    rw [if_neg hg17] at hp
    refine e_lastore f184_63 (WF.t w16 85 (by decide)) (WF.n w16 85 (by decide)) hg17 ?_
    refine e_aload_n f184_64 rfl ?_
    refine e_sipush (v := 10022) f184_65 (by decide) ?_
    refine e_aload_n f184_68 rfl ?_
    refine e_getR f184_69 (WF.t w16 32 (by decide)) rfl (WF.r (q := 85) w16 32 15 (by decide)) ?_
    by_cases hg18 : hT (hsL (h14) (85) (10 : Int32).toNatClampNeg ((a1).toInt64)) (o4) = 1
    rotate_left
    · rw [if_neg hg18] at hp; cases hp
    rw [if_pos hg18] at hp
    obtain ⟨r19, hr20, hp⟩ := bind_some hp
    try dsimp only at hp
    refine e_callV (st := []) (o := o4) (as := [.int (10022), .ref (85)]) f184_72 (by decide) rfl rfl (Nat.le_of_ble_eq_true rfl) hg18 (Nat.le_of_ble_eq_true rfl) (p25_ok d F (hsL (h14) (85) (10 : Int32).toNatClampNeg ((a1).toInt64)) w16 (o4) (10022) (some (85)) hg18 r19 hr20) ?_
    show ex _ 184 (75, [some (.ref (32)), some (.int (a0)), some (.int (a1)), some (.ref (o4)), none], [.int (r19.1)], r19.2) = _
    refine e_istore (ls2 := [some (.ref (32)), some (.int (a0)), some (.int (a1)), some (.ref (o4)), some (.int (r19.1))]) f184_75 (Nat.le_of_ble_eq_true rfl) rfl ?_
    refine e_iload f184_77 rfl ?_
    refine e_iconst (v := -1) f184_79 (by decide) ?_
    by_cases hc21 : (r19.1) = (((-1)) : Int32)
    · rw [if_pos hc21] at hp
      refine e_icmp_ne_f f184_80 hc21 ?_
      refine e_bipush (v := 99) f184_83 (by decide) ?_
      refine e_goto f184_85 ?_
      have hp := Option.some.inj hp
      subst hp
      exact e_ireturn f184_95 (Or.inl rfl)
    · rw [if_neg hc21] at hp
      refine e_icmp_ne_t f184_80 hc21 ?_
      refine e_aload_n f184_88 rfl ?_
      by_cases hg22 : hT (r19.2) (o4) = 1
      rotate_left
      · rw [if_neg hg22] at hp; cases hp
      rw [if_pos hg22] at hp
      refine e_getQ f184_89 hg22 rfl ?_
      refine e_iload f184_92 rfl ?_
      obtain ⟨o23, ho24, hp⟩ := bind_some hp
      try dsimp only at hp
      rw [ho24]
      by_cases hg25 : hT (r19.2) (o23) = 20
      rotate_left
      · rw [if_neg hg25] at hp; cases hp
      rw [if_pos hg25] at hp
      by_cases hg26 : (r19.1) < (0 : Int32) ∨ hN (r19.2) (o23) ≤ (r19.1).toNatClampNeg
      · rw [if_pos hg26] at hp; cases hp
      rw [if_neg hg26] at hp
      refine e_iaload f184_94 (Or.inl hg25) rfl hg26 ?_
      have hp := Option.some.inj hp
      subst hp
      exact e_ireturn f184_95 (Or.inl rfl)
set_option maxRecDepth 100000 in
set_option maxHeartbeats 4000000 in
theorem p184_w (F : Nat) (h : HS) (w : WF h) (a0 : Int32) (a1 : Int32) (r : Int32 × HS) (hp : p184 F h a0 a1 = some r) : WF r.2 := by
  unfold p184 at hp
  obtain ⟨r1, hr2, hp⟩ := bind_some hp
  try dsimp only at hp
  by_cases hc3 : (r1) = none
  · rw [if_pos hc3] at hp
    have hp := Option.some.inj hp
    subst hp
    exact (w)
  · rw [if_neg hc3] at hp
    obtain ⟨o4, ho5, hp⟩ := bind_some hp
    try dsimp only at hp
    obtain ⟨r6, hr7, hp⟩ := bind_some hp
    try dsimp only at hp
    obtain ⟨r8, hr9, hp⟩ := bind_some hp
    try dsimp only at hp
    by_cases hg10 : (8) < (0 : Int32) ∨ 11 ≤ (8 : Int32).toNatClampNeg
    · rw [if_pos hg10] at hp; cases hp
    rw [if_neg hg10] at hp
    obtain ⟨r11, hr12, hp⟩ := bind_some hp
    try dsimp only at hp
    by_cases hg13 : (9) < (0 : Int32) ∨ 11 ≤ (9 : Int32).toNatClampNeg
    · rw [if_pos hg13] at hp; cases hp
    rw [if_neg hg13] at hp
    obtain ⟨h14, e15, hp⟩ := bind_some hp
    try dsimp only at hp
    have e15 := Option.some.inj e15
    have w16 : WF h14 := e15 ▸ (p311_w F (h) w (some (85)) ((0 : Int64))  r6 hr7)
    by_cases hg17 : (10) < (0 : Int32) ∨ 11 ≤ (10 : Int32).toNatClampNeg
    · rw [if_pos hg17] at hp; cases hp
    rw [if_neg hg17] at hp
    by_cases hg18 : hT (hsL (h14) (85) (10 : Int32).toNatClampNeg ((a1).toInt64)) (o4) = 1
    rotate_left
    · rw [if_neg hg18] at hp; cases hp
    rw [if_pos hg18] at hp
    obtain ⟨r19, hr20, hp⟩ := bind_some hp
    try dsimp only at hp
    by_cases hc21 : (r19.1) = (((-1)) : Int32)
    · rw [if_pos hc21] at hp
      have hp := Option.some.inj hp
      subst hp
      exact ((p25_w F (hsL (h14) (85) (10 : Int32).toNatClampNeg ((a1).toInt64)) w16 (o4) (10022) (some (85)) hg18  r19 hr20))
    · rw [if_neg hc21] at hp
      by_cases hg22 : hT (r19.2) (o4) = 1
      rotate_left
      · rw [if_neg hg22] at hp; cases hp
      rw [if_pos hg22] at hp
      obtain ⟨o23, ho24, hp⟩ := bind_some hp
      try dsimp only at hp
      by_cases hg25 : hT (r19.2) (o23) = 20
      rotate_left
      · rw [if_neg hg25] at hp; cases hp
      rw [if_pos hg25] at hp
      by_cases hg26 : (r19.1) < (0 : Int32) ∨ hN (r19.2) (o23) ≤ (r19.1).toNatClampNeg
      · rw [if_pos hg26] at hp; cases hp
      rw [if_neg hg26] at hp
      have hp := Option.some.inj hp
      subst hp
      exact ((p25_w F (hsL (h14) (85) (10 : Int32).toNatClampNeg ((a1).toInt64)) w16 (o4) (10022) (some (85)) hg18  r19 hr20))
theorem f185_0 : fetch 185 0 = some (.aload_n 0, 0, 0, 0) := rfl
theorem f185_1 : fetch 185 1 = some (.getfield 73, 11, 13, 2) := rfl
theorem f185_4 : fetch 185 4 = some (.getfield 524, 4, 2, 2) := rfl
theorem f185_7 : fetch 185 7 = some (.iload_n 1, 0, 0, 0) := rfl
theorem f185_8 : fetch 185 8 = some (.iaload, 0, 0, 0) := rfl
theorem f185_9 : fetch 185 9 = some (.istore_n 3, 0, 0, 0) := rfl
theorem f185_10 : fetch 185 10 = some (.aload_n 0, 0, 0, 0) := rfl
theorem f185_11 : fetch 185 11 = some (.getfield 73, 11, 13, 2) := rfl
theorem f185_14 : fetch 185 14 = some (.getfield 527, 4, 4, 2) := rfl
theorem f185_17 : fetch 185 17 = some (.iload_n 1, 0, 0, 0) := rfl
theorem f185_18 : fetch 185 18 = some (.iaload, 0, 0, 0) := rfl
theorem f185_19 : fetch 185 19 = some (.iload_n 2, 0, 0, 0) := rfl
theorem f185_20 : fetch 185 20 = some (.if_icmp .le 29, 49, 0, 0) := rfl
theorem f185_23 : fetch 185 23 = some (.aload_n 0, 0, 0, 0) := rfl
theorem f185_24 : fetch 185 24 = some (.getfield 38, 11, 8, 2) := rfl
theorem f185_27 : fetch 185 27 = some (.iload_n 3, 0, 0, 0) := rfl
theorem f185_28 : fetch 185 28 = some (.iload_n 2, 0, 0, 0) := rfl
theorem f185_29 : fetch 185 29 = some (.invokevirtual 269, 13, 2, 0) := rfl
theorem f185_32 : fetch 185 32 = some (.aload_n 0, 0, 0, 0) := rfl
theorem f185_33 : fetch 185 33 = some (.getfield 73, 11, 13, 2) := rfl
theorem f185_36 : fetch 185 36 = some (.getfield 424, 4, 1, 2) := rfl
theorem f185_39 : fetch 185 39 = some (.iload_n 1, 0, 0, 0) := rfl
theorem f185_40 : fetch 185 40 = some (.iaload, 0, 0, 0) := rfl
theorem f185_41 : fetch 185 41 = some (.lushr, 0, 0, 0) := rfl
theorem f185_42 : fetch 185 42 = some (.lconst 1, 0, 0, 0) := rfl
theorem f185_43 : fetch 185 43 = some (.land, 0, 0, 0) := rfl
theorem f185_44 : fetch 185 44 = some (.lconst 0, 0, 0, 0) := rfl
theorem f185_45 : fetch 185 45 = some (.lcmp, 0, 0, 0) := rfl
theorem f185_46 : fetch 185 46 = some (.ifCond .ne 5, 51, 0, 0) := rfl
theorem f185_49 : fetch 185 49 = some (.iconst 0, 0, 0, 0) := rfl
theorem f185_50 : fetch 185 50 = some (.ireturn, 0, 0, 1) := rfl
theorem f185_51 : fetch 185 51 = some (.aload_n 0, 0, 0, 0) := rfl
theorem f185_52 : fetch 185 52 = some (.getfield 38, 11, 8, 2) := rfl
theorem f185_55 : fetch 185 55 = some (.iload_n 3, 0, 0, 0) := rfl
theorem f185_56 : fetch 185 56 = some (.iload_n 2, 0, 0, 0) := rfl
theorem f185_57 : fetch 185 57 = some (.invokevirtual 518, 14, 2, 0) := rfl
theorem f185_60 : fetch 185 60 = some (.aload_n 0, 0, 0, 0) := rfl
theorem f185_61 : fetch 185 61 = some (.getfield 38, 11, 8, 2) := rfl
theorem f185_64 : fetch 185 64 = some (.iload_n 3, 0, 0, 0) := rfl
theorem f185_65 : fetch 185 65 = some (.iload_n 2, 0, 0, 0) := rfl
theorem f185_66 : fetch 185 66 = some (.invokevirtual 521, 15, 2, 0) := rfl
theorem f185_69 : fetch 185 69 = some (.iadd, 0, 0, 0) := rfl
theorem f185_70 : fetch 185 70 = some (.aload_n 0, 0, 0, 0) := rfl
theorem f185_71 : fetch 185 71 = some (.iload_n 3, 0, 0, 0) := rfl
theorem f185_72 : fetch 185 72 = some (.iload_n 2, 0, 0, 0) := rfl
theorem f185_73 : fetch 185 73 = some (.invokevirtual 417, 184, 2, 0) := rfl
theorem f185_76 : fetch 185 76 = some (.if_icmp .lt 7, 83, 0, 0) := rfl
theorem f185_79 : fetch 185 79 = some (.iconst 1, 0, 0, 0) := rfl
theorem f185_80 : fetch 185 80 = some (.goto 4, 84, 0, 0) := rfl
theorem f185_83 : fetch 185 83 = some (.iconst 0, 0, 0, 0) := rfl
theorem f185_84 : fetch 185 84 = some (.ireturn, 0, 0, 1) := rfl
set_option maxRecDepth 100000 in
set_option maxHeartbeats 4000000 in
theorem p185_ok (d : Nat) (F : Nat) (h : HS) (w : WF h) (a0 : Int32) (a1 : Int32) (r : Int32 × HS) (hp : p185 F h a0 a1 = some r) : ex (d + 4) 185 (ent 185 [.ref (32), .int (a0), .int (a1)] h) = some (some (.int (r.1)), r.2) := by
  rw [show ent 185 [.ref (32), .int (a0), .int (a1)] h = (0, [some (.ref (32)), some (.int (a0)), some (.int (a1)), none], [], h) from by  rfl]
  refine ex_weak (ls := [some (.ref (32)), some (.int (a0)), some (.int (a1)), none]) (le2_ok ⟨Or.inr rfl, Or.inr rfl, Or.inr rfl, Or.inr rfl, trivial⟩) ?_
  unfold p185 at hp
  refine e_aload_n f185_0 rfl ?_
  refine e_getR f185_1 (WF.t w 32 (by decide)) rfl (WF.r (q := 68) w 32 13 (by decide)) ?_
  refine e_getR f185_4 (WF.t w 68 (by decide)) rfl (WF.r (q := 70) w 68 2 (by decide)) ?_
  refine e_iload_n f185_7 rfl ?_
  by_cases hg1 : (a0) < (0 : Int32) ∨ 60 ≤ (a0).toNatClampNeg
  · rw [if_pos hg1] at hp; cases hp
  rw [if_neg hg1] at hp
  refine e_iaload f185_8 (Or.inl (WF.t w 70 (by decide))) (WF.n w 70 (by decide)) hg1 ?_
  refine e_istore_n (ls2 := [some (.ref (32)), some (.int (a0)), some (.int (a1)), some (.int (hI (h) (70) (a0).toNatClampNeg))]) f185_9 (Nat.le_of_ble_eq_true rfl) rfl ?_
  refine e_aload_n f185_10 rfl ?_
  refine e_getR f185_11 (WF.t w 32 (by decide)) rfl (WF.r (q := 68) w 32 13 (by decide)) ?_
  refine e_getR f185_14 (WF.t w 68 (by decide)) rfl (WF.r (q := 72) w 68 4 (by decide)) ?_
  refine e_iload_n f185_17 rfl ?_
  by_cases hg2 : (a0) < (0 : Int32) ∨ 60 ≤ (a0).toNatClampNeg
  · rw [if_pos hg2] at hp; cases hp
  rw [if_neg hg2] at hp
  refine e_iaload f185_18 (Or.inl (WF.t w 72 (by decide))) (WF.n w 72 (by decide)) hg2 ?_
  refine e_iload_n f185_19 rfl ?_
  by_cases hc3 : (a1) < ((hI (h) (72) (a0).toNatClampNeg) : Int32)
  · rw [if_pos hc3] at hp
    refine e_icmp_le_f f185_20 hc3 ?_
    refine e_aload_n f185_23 rfl ?_
    refine e_getR f185_24 (WF.t w 32 (by decide)) rfl (WF.r (q := 50) w 32 8 (by decide)) ?_
    refine e_iload_n f185_27 rfl ?_
    refine e_iload_n f185_28 rfl ?_
    obtain ⟨r4, hr5, hp⟩ := bind_some hp
    try dsimp only at hp
    refine e_callV (st := []) (o := 50) (as := [.int (hI (h) (70) (a0).toNatClampNeg), .int (a1)]) f185_29 (by decide) rfl rfl (Nat.le_of_ble_eq_true rfl) (WF.t w 50 (by decide)) (Nat.le_of_ble_eq_true rfl) (p13_ok (d + 1) F (h) w (hI (h) (70) (a0).toNatClampNeg) (a1) r4 hr5) ?_
    show ex _ 185 (32, [some (.ref (32)), some (.int (a0)), some (.int (a1)), some (.int (hI (h) (70) (a0).toNatClampNeg))], [.long (r4)], h) = _
    refine e_aload_n f185_32 rfl ?_
    refine e_getR f185_33 (WF.t w 32 (by decide)) rfl (WF.r (q := 68) w 32 13 (by decide)) ?_
    refine e_getR f185_36 (WF.t w 68 (by decide)) rfl (WF.r (q := 69) w 68 1 (by decide)) ?_
    refine e_iload_n f185_39 rfl ?_
    by_cases hg6 : (a0) < (0 : Int32) ∨ 60 ≤ (a0).toNatClampNeg
    · rw [if_pos hg6] at hp; cases hp
    rw [if_neg hg6] at hp
    refine e_iaload f185_40 (Or.inl (WF.t w 69 (by decide))) (WF.n w 69 (by decide)) hg6 ?_
    refine e_lushr f185_41 ?_
    refine e_lconst (v := 1) f185_42 (by decide) ?_
    refine e_land f185_43 ?_
    refine e_lconst (v := 0) f185_44 (by decide) ?_
    refine e_lcmp f185_45 ?_
    by_cases hc7 : (lg_cmp ((((r4).toUInt64 >>> ((hI (h) (69) (a0).toNatClampNeg).toInt64.toUInt64 &&& Int64.toUInt64 63)).toInt64) &&& ((1 : Int64))) ((0 : Int64))) = (0 : Int32)
    · rw [if_pos hc7] at hp
      refine e_if_ne_f f185_46 hc7 ?_
      refine e_iconst (v := 0) f185_49 (by decide) ?_
      have hp := Option.some.inj hp
      subst hp
      exact e_ireturn f185_50 (by decide)
    · rw [if_neg hc7] at hp
      refine e_if_ne_t f185_46 hc7 ?_
      refine e_aload_n f185_51 rfl ?_
      refine e_getR f185_52 (WF.t w 32 (by decide)) rfl (WF.r (q := 50) w 32 8 (by decide)) ?_
      refine e_iload_n f185_55 rfl ?_
      refine e_iload_n f185_56 rfl ?_
      obtain ⟨r8, hr9, hp⟩ := bind_some hp
      try dsimp only at hp
      refine e_callV (st := []) (o := 50) (as := [.int (hI (h) (70) (a0).toNatClampNeg), .int (a1)]) f185_57 (by decide) rfl rfl (Nat.le_of_ble_eq_true rfl) (WF.t w 50 (by decide)) (Nat.le_of_ble_eq_true rfl) (p14_ok (d + 1) F (h) w (hI (h) (70) (a0).toNatClampNeg) (a1) r8 hr9) ?_
      show ex _ 185 (60, [some (.ref (32)), some (.int (a0)), some (.int (a1)), some (.int (hI (h) (70) (a0).toNatClampNeg))], [.int (r8)], h) = _
      refine e_aload_n f185_60 rfl ?_
      refine e_getR f185_61 (WF.t w 32 (by decide)) rfl (WF.r (q := 50) w 32 8 (by decide)) ?_
      refine e_iload_n f185_64 rfl ?_
      refine e_iload_n f185_65 rfl ?_
      obtain ⟨r10, hr11, hp⟩ := bind_some hp
      try dsimp only at hp
      refine e_callV (st := [.int (r8)]) (o := 50) (as := [.int (hI (h) (70) (a0).toNatClampNeg), .int (a1)]) f185_66 (by decide) rfl rfl (Nat.le_of_ble_eq_true rfl) (WF.t w 50 (by decide)) (Nat.le_of_ble_eq_true rfl) (p15_ok (d + 1) F (h) w (hI (h) (70) (a0).toNatClampNeg) (a1) r10 hr11) ?_
      show ex _ 185 (69, [some (.ref (32)), some (.int (a0)), some (.int (a1)), some (.int (hI (h) (70) (a0).toNatClampNeg))], [.int (r10), .int (r8)], h) = _
      refine e_iadd f185_69 ?_
      refine e_aload_n f185_70 rfl ?_
      refine e_iload_n f185_71 rfl ?_
      refine e_iload_n f185_72 rfl ?_
      obtain ⟨r12, hr13, hp⟩ := bind_some hp
      try dsimp only at hp
      refine e_callV (st := [.int ((r8) + (r10))]) (o := 32) (as := [.int (hI (h) (70) (a0).toNatClampNeg), .int (a1)]) f185_73 (by decide) rfl rfl (Nat.le_of_ble_eq_true rfl) (WF.t w 32 (by decide)) (Nat.le_of_ble_eq_true rfl) (p184_ok d F (h) w (hI (h) (70) (a0).toNatClampNeg) (a1) r12 hr13) ?_
      show ex _ 185 (76, [some (.ref (32)), some (.int (a0)), some (.int (a1)), some (.int (hI (h) (70) (a0).toNatClampNeg))], [.int (r12.1), .int ((r8) + (r10))], r12.2) = _
      by_cases hc14 : ((r8) + (r10)) < ((r12.1) : Int32)
      · rw [if_pos hc14] at hp
        refine e_icmp_lt_t f185_76 hc14 ?_
        refine e_iconst (v := 0) f185_83 (by decide) ?_
        have hp := Option.some.inj hp
        subst hp
        exact e_ireturn f185_84 (by decide)
      · rw [if_neg hc14] at hp
        refine e_icmp_lt_f f185_76 hc14 ?_
        refine e_iconst (v := 1) f185_79 (by decide) ?_
        refine e_goto f185_80 ?_
        have hp := Option.some.inj hp
        subst hp
        exact e_ireturn f185_84 (by decide)
  · rw [if_neg hc3] at hp
    refine e_icmp_le_t f185_20 hc3 ?_
    refine e_iconst (v := 0) f185_49 (by decide) ?_
    have hp := Option.some.inj hp
    subst hp
    exact e_ireturn f185_50 (by decide)
set_option maxRecDepth 100000 in
set_option maxHeartbeats 4000000 in
theorem p185_w (F : Nat) (h : HS) (w : WF h) (a0 : Int32) (a1 : Int32) (r : Int32 × HS) (hp : p185 F h a0 a1 = some r) : WF r.2 := by
  unfold p185 at hp
  by_cases hg1 : (a0) < (0 : Int32) ∨ 60 ≤ (a0).toNatClampNeg
  · rw [if_pos hg1] at hp; cases hp
  rw [if_neg hg1] at hp
  by_cases hg2 : (a0) < (0 : Int32) ∨ 60 ≤ (a0).toNatClampNeg
  · rw [if_pos hg2] at hp; cases hp
  rw [if_neg hg2] at hp
  by_cases hc3 : (a1) < ((hI (h) (72) (a0).toNatClampNeg) : Int32)
  · rw [if_pos hc3] at hp
    obtain ⟨r4, hr5, hp⟩ := bind_some hp
    try dsimp only at hp
    by_cases hg6 : (a0) < (0 : Int32) ∨ 60 ≤ (a0).toNatClampNeg
    · rw [if_pos hg6] at hp; cases hp
    rw [if_neg hg6] at hp
    by_cases hc7 : (lg_cmp ((((r4).toUInt64 >>> ((hI (h) (69) (a0).toNatClampNeg).toInt64.toUInt64 &&& Int64.toUInt64 63)).toInt64) &&& ((1 : Int64))) ((0 : Int64))) = (0 : Int32)
    · rw [if_pos hc7] at hp
      have hp := Option.some.inj hp
      subst hp
      exact (w)
    · rw [if_neg hc7] at hp
      obtain ⟨r8, hr9, hp⟩ := bind_some hp
      try dsimp only at hp
      obtain ⟨r10, hr11, hp⟩ := bind_some hp
      try dsimp only at hp
      obtain ⟨r12, hr13, hp⟩ := bind_some hp
      try dsimp only at hp
      by_cases hc14 : ((r8) + (r10)) < ((r12.1) : Int32)
      · rw [if_pos hc14] at hp
        have hp := Option.some.inj hp
        subst hp
        exact ((p184_w F (h) w (hI (h) (70) (a0).toNatClampNeg) (a1)  r12 hr13))
      · rw [if_neg hc14] at hp
        have hp := Option.some.inj hp
        subst hp
        exact ((p184_w F (h) w (hI (h) (70) (a0).toNatClampNeg) (a1)  r12 hr13))
  · rw [if_neg hc3] at hp
    have hp := Option.some.inj hp
    subst hp
    exact (w)
theorem f156_0 : fetch 156 0 = some (.aload_n 0, 0, 0, 0) := rfl
theorem f156_1 : fetch 156 1 = some (.getfield 73, 11, 13, 2) := rfl
theorem f156_4 : fetch 156 4 = some (.iload_n 1, 0, 0, 0) := rfl
theorem f156_5 : fetch 156 5 = some (.invokevirtual 408, 62, 1, 0) := rfl
theorem f156_8 : fetch 156 8 = some (.ifCond .eq 23, 31, 0, 0) := rfl
theorem f156_11 : fetch 156 11 = some (.iload_n 2, 0, 0, 0) := rfl
theorem f156_12 : fetch 156 12 = some (.invokestatic 260, 167, 1, 1) := rfl
theorem f156_15 : fetch 156 15 = some (.ifCond .eq 16, 31, 0, 0) := rfl
theorem f156_18 : fetch 156 18 = some (.iload_n 2, 0, 0, 0) := rfl
theorem f156_19 : fetch 156 19 = some (.aload_n 0, 0, 0, 0) := rfl
theorem f156_20 : fetch 156 20 = some (.getfield 73, 11, 13, 2) := rfl
theorem f156_23 : fetch 156 23 = some (.getfield 411, 4, 3, 2) := rfl
theorem f156_26 : fetch 156 26 = some (.iload_n 1, 0, 0, 0) := rfl
theorem f156_27 : fetch 156 27 = some (.iaload, 0, 0, 0) := rfl
theorem f156_28 : fetch 156 28 = some (.if_icmp .ge 5, 33, 0, 0) := rfl
theorem f156_31 : fetch 156 31 = some (.iconst (-1), 0, 0, 0) := rfl
theorem f156_32 : fetch 156 32 = some (.ireturn, 0, 0, 0) := rfl
theorem f156_33 : fetch 156 33 = some (.aload_n 0, 0, 0, 0) := rfl
theorem f156_34 : fetch 156 34 = some (.iload_n 1, 0, 0, 0) := rfl
theorem f156_35 : fetch 156 35 = some (.iload_n 2, 0, 0, 0) := rfl
theorem f156_36 : fetch 156 36 = some (.invokevirtual 414, 185, 2, 0) := rfl
theorem f156_39 : fetch 156 39 = some (.ifCond .eq 7, 46, 0, 0) := rfl
theorem f156_42 : fetch 156 42 = some (.iconst 1, 0, 0, 0) := rfl
theorem f156_43 : fetch 156 43 = some (.goto 4, 47, 0, 0) := rfl
theorem f156_46 : fetch 156 46 = some (.iconst 0, 0, 0, 0) := rfl
theorem f156_47 : fetch 156 47 = some (.ireturn, 0, 0, 0) := rfl
set_option maxRecDepth 100000 in
set_option maxHeartbeats 4000000 in
theorem p156_ok (d : Nat) (F : Nat) (h : HS) (w : WF h) (a0 : Int32) (a1 : Int32) (r : Int32 × HS) (hp : p156 F h a0 a1 = some r) : ex (d + 5) 156 (ent 156 [.ref (32), .int (a0), .int (a1)] h) = some (some (.int (r.1)), r.2) := by
  rw [show ent 156 [.ref (32), .int (a0), .int (a1)] h = (0, [some (.ref (32)), some (.int (a0)), some (.int (a1))], [], h) from by  rfl]
  refine ex_weak (ls := [some (.ref (32)), some (.int (a0)), some (.int (a1))]) (le2_ok ⟨Or.inr rfl, Or.inr rfl, Or.inr rfl, trivial⟩) ?_
  unfold p156 at hp
  refine e_aload_n f156_0 rfl ?_
  refine e_getR f156_1 (WF.t w 32 (by decide)) rfl (WF.r (q := 68) w 32 13 (by decide)) ?_
  refine e_iload_n f156_4 rfl ?_
  obtain ⟨r1, hr2, hp⟩ := bind_some hp
  try dsimp only at hp
  refine e_callV (st := []) (o := 68) (as := [.int (a0)]) f156_5 (by decide) rfl rfl (Nat.le_of_ble_eq_true rfl) (WF.t w 68 (by decide)) (Nat.le_of_ble_eq_true rfl) (p62_ok (d + 3) (h) w (a0) r1 hr2) ?_
  show ex _ 156 (8, [some (.ref (32)), some (.int (a0)), some (.int (a1))], [.int (r1)], h) = _
  by_cases hc3 : (r1) = (0 : Int32)
  · rw [if_pos hc3] at hp
    refine e_if_eq_t f156_8 hc3 ?_
    refine e_iconst (v := -1) f156_31 (by decide) ?_
    have hp := Option.some.inj hp
    subst hp
    exact e_ireturn f156_32 (Or.inl rfl)
  · rw [if_neg hc3] at hp
    refine e_if_eq_f f156_8 hc3 ?_
    refine e_iload_n f156_11 rfl ?_
    obtain ⟨r4, hr5, hp⟩ := bind_some hp
    try dsimp only at hp
    refine e_callS (st := []) (as := [.int (a1)]) f156_12 (by decide) rfl rfl (Nat.le_of_ble_eq_true rfl) (Nat.le_of_ble_eq_true rfl) (p167_ok (d + 3) (h) w (a1) r4 hr5) ?_
    show ex _ 156 (15, [some (.ref (32)), some (.int (a0)), some (.int (a1))], [.int (r4)], h) = _
    by_cases hc6 : (r4) = (0 : Int32)
    · rw [if_pos hc6] at hp
      refine e_if_eq_t f156_15 hc6 ?_
      refine e_iconst (v := -1) f156_31 (by decide) ?_
      have hp := Option.some.inj hp
      subst hp
      exact e_ireturn f156_32 (Or.inl rfl)
    · rw [if_neg hc6] at hp
      refine e_if_eq_f f156_15 hc6 ?_
      refine e_iload_n f156_18 rfl ?_
      refine e_aload_n f156_19 rfl ?_
      refine e_getR f156_20 (WF.t w 32 (by decide)) rfl (WF.r (q := 68) w 32 13 (by decide)) ?_
      refine e_getR f156_23 (WF.t w 68 (by decide)) rfl (WF.r (q := 71) w 68 3 (by decide)) ?_
      refine e_iload_n f156_26 rfl ?_
      by_cases hg7 : (a0) < (0 : Int32) ∨ 60 ≤ (a0).toNatClampNeg
      · rw [if_pos hg7] at hp; cases hp
      rw [if_neg hg7] at hp
      refine e_iaload f156_27 (Or.inl (WF.t w 71 (by decide))) (WF.n w 71 (by decide)) hg7 ?_
      by_cases hc8 : (a1) < ((hI (h) (71) (a0).toNatClampNeg) : Int32)
      · rw [if_pos hc8] at hp
        refine e_icmp_ge_f f156_28 hc8 ?_
        refine e_iconst (v := -1) f156_31 (by decide) ?_
        have hp := Option.some.inj hp
        subst hp
        exact e_ireturn f156_32 (Or.inl rfl)
      · rw [if_neg hc8] at hp
        refine e_icmp_ge_t f156_28 hc8 ?_
        refine e_aload_n f156_33 rfl ?_
        refine e_iload_n f156_34 rfl ?_
        refine e_iload_n f156_35 rfl ?_
        obtain ⟨r9, hr10, hp⟩ := bind_some hp
        try dsimp only at hp
        refine e_callV (st := []) (o := 32) (as := [.int (a0), .int (a1)]) f156_36 (by decide) rfl rfl (Nat.le_of_ble_eq_true rfl) (WF.t w 32 (by decide)) (Nat.le_of_ble_eq_true rfl) (p185_ok d F (h) w (a0) (a1) r9 hr10) ?_
        show ex _ 156 (39, [some (.ref (32)), some (.int (a0)), some (.int (a1))], [.int (r9.1)], r9.2) = _
        by_cases hc11 : (r9.1) = (0 : Int32)
        · rw [if_pos hc11] at hp
          refine e_if_eq_t f156_39 hc11 ?_
          refine e_iconst (v := 0) f156_46 (by decide) ?_
          have hp := Option.some.inj hp
          subst hp
          exact e_ireturn f156_47 (Or.inl rfl)
        · rw [if_neg hc11] at hp
          refine e_if_eq_f f156_39 hc11 ?_
          refine e_iconst (v := 1) f156_42 (by decide) ?_
          refine e_goto f156_43 ?_
          have hp := Option.some.inj hp
          subst hp
          exact e_ireturn f156_47 (Or.inl rfl)
set_option maxRecDepth 100000 in
set_option maxHeartbeats 4000000 in
theorem p156_w (F : Nat) (h : HS) (w : WF h) (a0 : Int32) (a1 : Int32) (r : Int32 × HS) (hp : p156 F h a0 a1 = some r) : WF r.2 := by
  unfold p156 at hp
  obtain ⟨r1, hr2, hp⟩ := bind_some hp
  try dsimp only at hp
  by_cases hc3 : (r1) = (0 : Int32)
  · rw [if_pos hc3] at hp
    have hp := Option.some.inj hp
    subst hp
    exact (w)
  · rw [if_neg hc3] at hp
    obtain ⟨r4, hr5, hp⟩ := bind_some hp
    try dsimp only at hp
    by_cases hc6 : (r4) = (0 : Int32)
    · rw [if_pos hc6] at hp
      have hp := Option.some.inj hp
      subst hp
      exact (w)
    · rw [if_neg hc6] at hp
      by_cases hg7 : (a0) < (0 : Int32) ∨ 60 ≤ (a0).toNatClampNeg
      · rw [if_pos hg7] at hp; cases hp
      rw [if_neg hg7] at hp
      by_cases hc8 : (a1) < ((hI (h) (71) (a0).toNatClampNeg) : Int32)
      · rw [if_pos hc8] at hp
        have hp := Option.some.inj hp
        subst hp
        exact (w)
      · rw [if_neg hc8] at hp
        obtain ⟨r9, hr10, hp⟩ := bind_some hp
        try dsimp only at hp
        by_cases hc11 : (r9.1) = (0 : Int32)
        · rw [if_pos hc11] at hp
          have hp := Option.some.inj hp
          subst hp
          exact ((p185_w F (h) w (a0) (a1)  r9 hr10))
        · rw [if_neg hc11] at hp
          have hp := Option.some.inj hp
          subst hp
          exact ((p185_w F (h) w (a0) (a1)  r9 hr10))
theorem f157_0 : fetch 157 0 = some (.aload_n 0, 0, 0, 0) := rfl
theorem f157_1 : fetch 157 1 = some (.getfield 38, 11, 8, 2) := rfl
theorem f157_4 : fetch 157 4 = some (.iload_n 1, 0, 0, 0) := rfl
theorem f157_5 : fetch 157 5 = some (.invokevirtual 242, 2, 1, 0) := rfl
theorem f157_8 : fetch 157 8 = some (.ifCond .eq 19, 27, 0, 0) := rfl
theorem f157_11 : fetch 157 11 = some (.iload_n 2, 0, 0, 0) := rfl
theorem f157_12 : fetch 157 12 = some (.invokestatic 260, 167, 1, 1) := rfl
theorem f157_15 : fetch 157 15 = some (.ifCond .eq 12, 27, 0, 0) := rfl
theorem f157_18 : fetch 157 18 = some (.aload_n 0, 0, 0, 0) := rfl
theorem f157_19 : fetch 157 19 = some (.iload_n 1, 0, 0, 0) := rfl
theorem f157_20 : fetch 157 20 = some (.iload_n 2, 0, 0, 0) := rfl
theorem f157_21 : fetch 157 21 = some (.invokevirtual 417, 184, 2, 0) := rfl
theorem f157_24 : fetch 157 24 = some (.goto 4, 28, 0, 0) := rfl
theorem f157_27 : fetch 157 27 = some (.iconst (-1), 0, 0, 0) := rfl
theorem f157_28 : fetch 157 28 = some (.ireturn, 0, 0, 0) := rfl
set_option maxRecDepth 100000 in
set_option maxHeartbeats 4000000 in
theorem p157_ok (d : Nat) (F : Nat) (h : HS) (w : WF h) (a0 : Int32) (a1 : Int32) (r : Int32 × HS) (hp : p157 F h a0 a1 = some r) : ex (d + 4) 157 (ent 157 [.ref (32), .int (a0), .int (a1)] h) = some (some (.int (r.1)), r.2) := by
  rw [show ent 157 [.ref (32), .int (a0), .int (a1)] h = (0, [some (.ref (32)), some (.int (a0)), some (.int (a1))], [], h) from by  rfl]
  refine ex_weak (ls := [some (.ref (32)), some (.int (a0)), some (.int (a1))]) (le2_ok ⟨Or.inr rfl, Or.inr rfl, Or.inr rfl, trivial⟩) ?_
  unfold p157 at hp
  refine e_aload_n f157_0 rfl ?_
  refine e_getR f157_1 (WF.t w 32 (by decide)) rfl (WF.r (q := 50) w 32 8 (by decide)) ?_
  refine e_iload_n f157_4 rfl ?_
  obtain ⟨r1, hr2, hp⟩ := bind_some hp
  try dsimp only at hp
  refine e_callV (st := []) (o := 50) (as := [.int (a0)]) f157_5 (by decide) rfl rfl (Nat.le_of_ble_eq_true rfl) (WF.t w 50 (by decide)) (Nat.le_of_ble_eq_true rfl) (p2_ok (d + 2) (h) w (a0) r1 hr2) ?_
  show ex _ 157 (8, [some (.ref (32)), some (.int (a0)), some (.int (a1))], [.int (r1)], h) = _
  by_cases hc3 : (r1) = (0 : Int32)
  · rw [if_pos hc3] at hp
    refine e_if_eq_t f157_8 hc3 ?_
    refine e_iconst (v := -1) f157_27 (by decide) ?_
    have hp := Option.some.inj hp
    subst hp
    exact e_ireturn f157_28 (Or.inl rfl)
  · rw [if_neg hc3] at hp
    refine e_if_eq_f f157_8 hc3 ?_
    refine e_iload_n f157_11 rfl ?_
    obtain ⟨r4, hr5, hp⟩ := bind_some hp
    try dsimp only at hp
    refine e_callS (st := []) (as := [.int (a1)]) f157_12 (by decide) rfl rfl (Nat.le_of_ble_eq_true rfl) (Nat.le_of_ble_eq_true rfl) (p167_ok (d + 2) (h) w (a1) r4 hr5) ?_
    show ex _ 157 (15, [some (.ref (32)), some (.int (a0)), some (.int (a1))], [.int (r4)], h) = _
    by_cases hc6 : (r4) = (0 : Int32)
    · rw [if_pos hc6] at hp
      refine e_if_eq_t f157_15 hc6 ?_
      refine e_iconst (v := -1) f157_27 (by decide) ?_
      have hp := Option.some.inj hp
      subst hp
      exact e_ireturn f157_28 (Or.inl rfl)
    · rw [if_neg hc6] at hp
      refine e_if_eq_f f157_15 hc6 ?_
      refine e_aload_n f157_18 rfl ?_
      refine e_iload_n f157_19 rfl ?_
      refine e_iload_n f157_20 rfl ?_
      obtain ⟨r7, hr8, hp⟩ := bind_some hp
      try dsimp only at hp
      refine e_callV (st := []) (o := 32) (as := [.int (a0), .int (a1)]) f157_21 (by decide) rfl rfl (Nat.le_of_ble_eq_true rfl) (WF.t w 32 (by decide)) (Nat.le_of_ble_eq_true rfl) (p184_ok d F (h) w (a0) (a1) r7 hr8) ?_
      show ex _ 157 (24, [some (.ref (32)), some (.int (a0)), some (.int (a1))], [.int (r7.1)], r7.2) = _
      refine e_goto f157_24 ?_
      have hp := Option.some.inj hp
      subst hp
      exact e_ireturn f157_28 (Or.inl rfl)
set_option maxRecDepth 100000 in
set_option maxHeartbeats 4000000 in
theorem p157_w (F : Nat) (h : HS) (w : WF h) (a0 : Int32) (a1 : Int32) (r : Int32 × HS) (hp : p157 F h a0 a1 = some r) : WF r.2 := by
  unfold p157 at hp
  obtain ⟨r1, hr2, hp⟩ := bind_some hp
  try dsimp only at hp
  by_cases hc3 : (r1) = (0 : Int32)
  · rw [if_pos hc3] at hp
    have hp := Option.some.inj hp
    subst hp
    exact (w)
  · rw [if_neg hc3] at hp
    obtain ⟨r4, hr5, hp⟩ := bind_some hp
    try dsimp only at hp
    by_cases hc6 : (r4) = (0 : Int32)
    · rw [if_pos hc6] at hp
      have hp := Option.some.inj hp
      subst hp
      exact (w)
    · rw [if_neg hc6] at hp
      obtain ⟨r7, hr8, hp⟩ := bind_some hp
      try dsimp only at hp
      have hp := Option.some.inj hp
      subst hp
      exact ((p184_w F (h) w (a0) (a1)  r7 hr8))
theorem f158_0 : fetch 158 0 = some (.aload_n 0, 0, 0, 0) := rfl
theorem f158_1 : fetch 158 1 = some (.getfield 73, 11, 13, 2) := rfl
theorem f158_4 : fetch 158 4 = some (.iload_n 1, 0, 0, 0) := rfl
theorem f158_5 : fetch 158 5 = some (.invokevirtual 408, 62, 1, 0) := rfl
theorem f158_8 : fetch 158 8 = some (.ifCond .eq 23, 31, 0, 0) := rfl
theorem f158_11 : fetch 158 11 = some (.aload_n 0, 0, 0, 0) := rfl
theorem f158_12 : fetch 158 12 = some (.getfield 73, 11, 13, 2) := rfl
theorem f158_15 : fetch 158 15 = some (.iload_n 1, 0, 0, 0) := rfl
theorem f158_16 : fetch 158 16 = some (.iload_n 2, 0, 0, 0) := rfl
theorem f158_17 : fetch 158 17 = some (.aload_n 0, 0, 0, 0) := rfl
theorem f158_18 : fetch 158 18 = some (.getfield 88, 11, 0, 0) := rfl
theorem f158_21 : fetch 158 21 = some (.invokevirtual 420, 64, 3, 0) := rfl
theorem f158_24 : fetch 158 24 = some (.ifCond .eq 7, 31, 0, 0) := rfl
theorem f158_27 : fetch 158 27 = some (.iconst 1, 0, 0, 0) := rfl
theorem f158_28 : fetch 158 28 = some (.goto 4, 32, 0, 0) := rfl
theorem f158_31 : fetch 158 31 = some (.iconst 0, 0, 0, 0) := rfl
theorem f158_32 : fetch 158 32 = some (.ireturn, 0, 0, 1) := rfl
set_option maxRecDepth 100000 in
set_option maxHeartbeats 4000000 in
theorem p158_ok (d : Nat) (h : HS) (w : WF h) (a0 : Int32) (a1 : Int32) (r : Int32 × HS) (hp : p158 h a0 a1 = some r) : ex (d + 2) 158 (ent 158 [.ref (32), .int (a0), .int (a1)] h) = some (some (.int (r.1)), r.2) := by
  rw [show ent 158 [.ref (32), .int (a0), .int (a1)] h = (0, [some (.ref (32)), some (.int (a0)), some (.int (a1))], [], h) from by  rfl]
  refine ex_weak (ls := [some (.ref (32)), some (.int (a0)), some (.int (a1))]) (le2_ok ⟨Or.inr rfl, Or.inr rfl, Or.inr rfl, trivial⟩) ?_
  unfold p158 at hp
  refine e_aload_n f158_0 rfl ?_
  refine e_getR f158_1 (WF.t w 32 (by decide)) rfl (WF.r (q := 68) w 32 13 (by decide)) ?_
  refine e_iload_n f158_4 rfl ?_
  obtain ⟨r1, hr2, hp⟩ := bind_some hp
  try dsimp only at hp
  refine e_callV (st := []) (o := 68) (as := [.int (a0)]) f158_5 (by decide) rfl rfl (Nat.le_of_ble_eq_true rfl) (WF.t w 68 (by decide)) (Nat.le_of_ble_eq_true rfl) (p62_ok d (h) w (a0) r1 hr2) ?_
  show ex _ 158 (8, [some (.ref (32)), some (.int (a0)), some (.int (a1))], [.int (r1)], h) = _
  by_cases hc3 : (r1) = (0 : Int32)
  · rw [if_pos hc3] at hp
    refine e_if_eq_t f158_8 hc3 ?_
    refine e_iconst (v := 0) f158_31 (by decide) ?_
    have hp := Option.some.inj hp
    subst hp
    exact e_ireturn f158_32 (by decide)
  · rw [if_neg hc3] at hp
    refine e_if_eq_f f158_8 hc3 ?_
    refine e_aload_n f158_11 rfl ?_
    refine e_getR f158_12 (WF.t w 32 (by decide)) rfl (WF.r (q := 68) w 32 13 (by decide)) ?_
    refine e_iload_n f158_15 rfl ?_
    refine e_iload_n f158_16 rfl ?_
    refine e_aload_n f158_17 rfl ?_
    refine e_getI f158_18 (WF.t w 32 (by decide)) (by decide) ?_
    obtain ⟨r4, hr5, hp⟩ := bind_some hp
    try dsimp only at hp
    refine e_callV (st := []) (o := 68) (as := [.int (a0), .int (a1), .int (hI (h) (32) 0)]) f158_21 (by decide) rfl rfl (Nat.le_of_ble_eq_true rfl) (WF.t w 68 (by decide)) (Nat.le_of_ble_eq_true rfl) (p64_ok (d + 1) (h) w (a0) (a1) (hI (h) (32) 0) r4 hr5) ?_
    show ex _ 158 (24, [some (.ref (32)), some (.int (a0)), some (.int (a1))], [.int (r4.1)], r4.2) = _
    by_cases hc6 : (r4.1) = (0 : Int32)
    · rw [if_pos hc6] at hp
      refine e_if_eq_t f158_24 hc6 ?_
      refine e_iconst (v := 0) f158_31 (by decide) ?_
      have hp := Option.some.inj hp
      subst hp
      exact e_ireturn f158_32 (by decide)
    · rw [if_neg hc6] at hp
      refine e_if_eq_f f158_24 hc6 ?_
      refine e_iconst (v := 1) f158_27 (by decide) ?_
      refine e_goto f158_28 ?_
      have hp := Option.some.inj hp
      subst hp
      exact e_ireturn f158_32 (by decide)
set_option maxRecDepth 100000 in
set_option maxHeartbeats 4000000 in
theorem p158_w (h : HS) (w : WF h) (a0 : Int32) (a1 : Int32) (r : Int32 × HS) (hp : p158 h a0 a1 = some r) : WF r.2 := by
  unfold p158 at hp
  obtain ⟨r1, hr2, hp⟩ := bind_some hp
  try dsimp only at hp
  by_cases hc3 : (r1) = (0 : Int32)
  · rw [if_pos hc3] at hp
    have hp := Option.some.inj hp
    subst hp
    exact (w)
  · rw [if_neg hc3] at hp
    obtain ⟨r4, hr5, hp⟩ := bind_some hp
    try dsimp only at hp
    by_cases hc6 : (r4.1) = (0 : Int32)
    · rw [if_pos hc6] at hp
      have hp := Option.some.inj hp
      subst hp
      exact ((p64_w (h) w (a0) (a1) (hI (h) (32) 0)  r4 hr5))
    · rw [if_neg hc6] at hp
      have hp := Option.some.inj hp
      subst hp
      exact ((p64_w (h) w (a0) (a1) (hI (h) (32) 0)  r4 hr5))
theorem f159_0 : fetch 159 0 = some (.aload_n 0, 0, 0, 0) := rfl
theorem f159_1 : fetch 159 1 = some (.getfield 73, 11, 13, 2) := rfl
theorem f159_4 : fetch 159 4 = some (.iload_n 1, 0, 0, 0) := rfl
theorem f159_5 : fetch 159 5 = some (.invokevirtual 408, 62, 1, 0) := rfl
theorem f159_8 : fetch 159 8 = some (.ifCond .eq 34, 42, 0, 0) := rfl
theorem f159_11 : fetch 159 11 = some (.aload_n 0, 0, 0, 0) := rfl
theorem f159_12 : fetch 159 12 = some (.getfield 73, 11, 13, 2) := rfl
theorem f159_15 : fetch 159 15 = some (.aload_n 0, 0, 0, 0) := rfl
theorem f159_16 : fetch 159 16 = some (.getfield 73, 11, 13, 2) := rfl
theorem f159_19 : fetch 159 19 = some (.getfield 424, 4, 1, 2) := rfl
theorem f159_22 : fetch 159 22 = some (.iload_n 1, 0, 0, 0) := rfl
theorem f159_23 : fetch 159 23 = some (.iaload, 0, 0, 0) := rfl
theorem f159_24 : fetch 159 24 = some (.invokevirtual 427, 65, 1, 0) := rfl
theorem f159_27 : fetch 159 27 = some (.ifCond .eq 15, 42, 0, 0) := rfl
theorem f159_30 : fetch 159 30 = some (.aload_n 0, 0, 0, 0) := rfl
theorem f159_31 : fetch 159 31 = some (.iload_n 1, 0, 0, 0) := rfl
theorem f159_32 : fetch 159 32 = some (.aload_n 0, 0, 0, 0) := rfl
theorem f159_33 : fetch 159 33 = some (.getfield 88, 11, 0, 0) := rfl
theorem f159_36 : fetch 159 36 = some (.invokevirtual 414, 185, 2, 0) := rfl
theorem f159_39 : fetch 159 39 = some (.ifCond .ne 5, 44, 0, 0) := rfl
theorem f159_42 : fetch 159 42 = some (.iconst 0, 0, 0, 0) := rfl
theorem f159_43 : fetch 159 43 = some (.ireturn, 0, 0, 1) := rfl
theorem f159_44 : fetch 159 44 = some (.aload_n 0, 0, 0, 0) := rfl
theorem f159_45 : fetch 159 45 = some (.getfield 73, 11, 13, 2) := rfl
theorem f159_48 : fetch 159 48 = some (.getfield 430, 4, 7, 2) := rfl
theorem f159_51 : fetch 159 51 = some (.aload_n 0, 0, 0, 0) := rfl
theorem f159_52 : fetch 159 52 = some (.getfield 73, 11, 13, 2) := rfl
theorem f159_55 : fetch 159 55 = some (.getfield 424, 4, 1, 2) := rfl
theorem f159_58 : fetch 159 58 = some (.iload_n 1, 0, 0, 0) := rfl
theorem f159_59 : fetch 159 59 = some (.iaload, 0, 0, 0) := rfl
theorem f159_60 : fetch 159 60 = some (.iload_n 1, 0, 0, 0) := rfl
theorem f159_61 : fetch 159 61 = some (.iastore, 0, 0, 0) := rfl
theorem f159_62 : fetch 159 62 = some (.iconst 1, 0, 0, 0) := rfl
theorem f159_63 : fetch 159 63 = some (.ireturn, 0, 0, 1) := rfl
set_option maxRecDepth 100000 in
set_option maxHeartbeats 4000000 in
theorem p159_ok (d : Nat) (F : Nat) (h : HS) (w : WF h) (a0 : Int32) (r : Int32 × HS) (hp : p159 F h a0 = some r) : ex (d + 5) 159 (ent 159 [.ref (32), .int (a0)] h) = some (some (.int (r.1)), r.2) := by
  rw [show ent 159 [.ref (32), .int (a0)] h = (0, [some (.ref (32)), some (.int (a0))], [], h) from by  rfl]
  refine ex_weak (ls := [some (.ref (32)), some (.int (a0))]) (le2_ok ⟨Or.inr rfl, Or.inr rfl, trivial⟩) ?_
  unfold p159 at hp
  refine e_aload_n f159_0 rfl ?_
  refine e_getR f159_1 (WF.t w 32 (by decide)) rfl (WF.r (q := 68) w 32 13 (by decide)) ?_
  refine e_iload_n f159_4 rfl ?_
  obtain ⟨r1, hr2, hp⟩ := bind_some hp
  try dsimp only at hp
  refine e_callV (st := []) (o := 68) (as := [.int (a0)]) f159_5 (by decide) rfl rfl (Nat.le_of_ble_eq_true rfl) (WF.t w 68 (by decide)) (Nat.le_of_ble_eq_true rfl) (p62_ok (d + 3) (h) w (a0) r1 hr2) ?_
  show ex _ 159 (8, [some (.ref (32)), some (.int (a0))], [.int (r1)], h) = _
  by_cases hc3 : (r1) = (0 : Int32)
  · rw [if_pos hc3] at hp
    refine e_if_eq_t f159_8 hc3 ?_
    refine e_iconst (v := 0) f159_42 (by decide) ?_
    have hp := Option.some.inj hp
    subst hp
    exact e_ireturn f159_43 (by decide)
  · rw [if_neg hc3] at hp
    refine e_if_eq_f f159_8 hc3 ?_
    refine e_aload_n f159_11 rfl ?_
    refine e_getR f159_12 (WF.t w 32 (by decide)) rfl (WF.r (q := 68) w 32 13 (by decide)) ?_
    refine e_aload_n f159_15 rfl ?_
    refine e_getR f159_16 (WF.t w 32 (by decide)) rfl (WF.r (q := 68) w 32 13 (by decide)) ?_
    refine e_getR f159_19 (WF.t w 68 (by decide)) rfl (WF.r (q := 69) w 68 1 (by decide)) ?_
    refine e_iload_n f159_22 rfl ?_
    by_cases hg4 : (a0) < (0 : Int32) ∨ 60 ≤ (a0).toNatClampNeg
    · rw [if_pos hg4] at hp; cases hp
    rw [if_neg hg4] at hp
    refine e_iaload f159_23 (Or.inl (WF.t w 69 (by decide))) (WF.n w 69 (by decide)) hg4 ?_
    obtain ⟨r5, hr6, hp⟩ := bind_some hp
    try dsimp only at hp
    refine e_callV (st := []) (o := 68) (as := [.int (hI (h) (69) (a0).toNatClampNeg)]) f159_24 (by decide) rfl rfl (Nat.le_of_ble_eq_true rfl) (WF.t w 68 (by decide)) (Nat.le_of_ble_eq_true rfl) (p65_ok (d + 4) (h) w (hI (h) (69) (a0).toNatClampNeg) r5 hr6) ?_
    show ex _ 159 (27, [some (.ref (32)), some (.int (a0))], [.int (r5)], h) = _
    by_cases hc7 : (r5) = (0 : Int32)
    · rw [if_pos hc7] at hp
      refine e_if_eq_t f159_27 hc7 ?_
      refine e_iconst (v := 0) f159_42 (by decide) ?_
      have hp := Option.some.inj hp
      subst hp
      exact e_ireturn f159_43 (by decide)
    · rw [if_neg hc7] at hp
      refine e_if_eq_f f159_27 hc7 ?_
      refine e_aload_n f159_30 rfl ?_
      refine e_iload_n f159_31 rfl ?_
      refine e_aload_n f159_32 rfl ?_
      refine e_getI f159_33 (WF.t w 32 (by decide)) (by decide) ?_
      obtain ⟨r8, hr9, hp⟩ := bind_some hp
      try dsimp only at hp
      refine e_callV (st := []) (o := 32) (as := [.int (a0), .int (hI (h) (32) 0)]) f159_36 (by decide) rfl rfl (Nat.le_of_ble_eq_true rfl) (WF.t w 32 (by decide)) (Nat.le_of_ble_eq_true rfl) (p185_ok d F (h) w (a0) (hI (h) (32) 0) r8 hr9) ?_
      show ex _ 159 (39, [some (.ref (32)), some (.int (a0))], [.int (r8.1)], r8.2) = _
      by_cases hc10 : (r8.1) = (0 : Int32)
      · rw [if_pos hc10] at hp
        refine e_if_ne_f f159_39 hc10 ?_
        refine e_iconst (v := 0) f159_42 (by decide) ?_
        have hp := Option.some.inj hp
        subst hp
        exact e_ireturn f159_43 (by decide)
      · rw [if_neg hc10] at hp
        refine e_if_ne_t f159_39 hc10 ?_
        refine e_aload_n f159_44 rfl ?_
        refine e_getR f159_45 (WF.t (p185_w F (h) w (a0) (hI (h) (32) 0)  r8 hr9) 32 (by decide)) rfl (WF.r (q := 68) (p185_w F (h) w (a0) (hI (h) (32) 0)  r8 hr9) 32 13 (by decide)) ?_
        refine e_getR f159_48 (WF.t (p185_w F (h) w (a0) (hI (h) (32) 0)  r8 hr9) 68 (by decide)) rfl (WF.r (q := 75) (p185_w F (h) w (a0) (hI (h) (32) 0)  r8 hr9) 68 7 (by decide)) ?_
        refine e_aload_n f159_51 rfl ?_
        refine e_getR f159_52 (WF.t (p185_w F (h) w (a0) (hI (h) (32) 0)  r8 hr9) 32 (by decide)) rfl (WF.r (q := 68) (p185_w F (h) w (a0) (hI (h) (32) 0)  r8 hr9) 32 13 (by decide)) ?_
        refine e_getR f159_55 (WF.t (p185_w F (h) w (a0) (hI (h) (32) 0)  r8 hr9) 68 (by decide)) rfl (WF.r (q := 69) (p185_w F (h) w (a0) (hI (h) (32) 0)  r8 hr9) 68 1 (by decide)) ?_
        refine e_iload_n f159_58 rfl ?_
        by_cases hg11 : (a0) < (0 : Int32) ∨ 60 ≤ (a0).toNatClampNeg
        · rw [if_pos hg11] at hp; cases hp
        rw [if_neg hg11] at hp
        refine e_iaload f159_59 (Or.inl (WF.t (p185_w F (h) w (a0) (hI (h) (32) 0)  r8 hr9) 69 (by decide))) (WF.n (p185_w F (h) w (a0) (hI (h) (32) 0)  r8 hr9) 69 (by decide)) hg11 ?_
        refine e_iload_n f159_60 rfl ?_
        by_cases hg12 : (hI (r8.2) (69) (a0).toNatClampNeg) < (0 : Int32) ∨ 60 ≤ (hI (r8.2) (69) (a0).toNatClampNeg).toNatClampNeg
        · rw [if_pos hg12] at hp; cases hp
        rw [if_neg hg12] at hp
        refine e_iastore f159_61 (WF.t (p185_w F (h) w (a0) (hI (h) (32) 0)  r8 hr9) 75 (by decide)) (WF.n (p185_w F (h) w (a0) (hI (h) (32) 0)  r8 hr9) 75 (by decide)) hg12 ?_
        refine e_iconst (v := 1) f159_62 (by decide) ?_
        have hp := Option.some.inj hp
        subst hp
        exact e_ireturn f159_63 (by decide)
set_option maxRecDepth 100000 in
set_option maxHeartbeats 4000000 in
theorem p159_w (F : Nat) (h : HS) (w : WF h) (a0 : Int32) (r : Int32 × HS) (hp : p159 F h a0 = some r) : WF r.2 := by
  unfold p159 at hp
  obtain ⟨r1, hr2, hp⟩ := bind_some hp
  try dsimp only at hp
  by_cases hc3 : (r1) = (0 : Int32)
  · rw [if_pos hc3] at hp
    have hp := Option.some.inj hp
    subst hp
    exact (w)
  · rw [if_neg hc3] at hp
    by_cases hg4 : (a0) < (0 : Int32) ∨ 60 ≤ (a0).toNatClampNeg
    · rw [if_pos hg4] at hp; cases hp
    rw [if_neg hg4] at hp
    obtain ⟨r5, hr6, hp⟩ := bind_some hp
    try dsimp only at hp
    by_cases hc7 : (r5) = (0 : Int32)
    · rw [if_pos hc7] at hp
      have hp := Option.some.inj hp
      subst hp
      exact (w)
    · rw [if_neg hc7] at hp
      obtain ⟨r8, hr9, hp⟩ := bind_some hp
      try dsimp only at hp
      by_cases hc10 : (r8.1) = (0 : Int32)
      · rw [if_pos hc10] at hp
        have hp := Option.some.inj hp
        subst hp
        exact ((p185_w F (h) w (a0) (hI (h) (32) 0)  r8 hr9))
      · rw [if_neg hc10] at hp
        by_cases hg11 : (a0) < (0 : Int32) ∨ 60 ≤ (a0).toNatClampNeg
        · rw [if_pos hg11] at hp; cases hp
        rw [if_neg hg11] at hp
        by_cases hg12 : (hI (r8.2) (69) (a0).toNatClampNeg) < (0 : Int32) ∨ 60 ≤ (hI (r8.2) (69) (a0).toNatClampNeg).toNatClampNeg
        · rw [if_pos hg12] at hp; cases hp
        rw [if_neg hg12] at hp
        have hp := Option.some.inj hp
        subst hp
        exact ((p185_w F (h) w (a0) (hI (h) (32) 0)  r8 hr9))
theorem f160_0 : fetch 160 0 = some (.iconst 0, 0, 0, 0) := rfl
theorem f160_1 : fetch 160 1 = some (.istore_n 1, 0, 0, 0) := rfl
theorem f160_2 : fetch 160 2 = some (.iconst 0, 0, 0, 0) := rfl
theorem f160_3 : fetch 160 3 = some (.istore_n 2, 0, 0, 0) := rfl
theorem f160_4 : fetch 160 4 = some (.iload_n 2, 0, 0, 0) := rfl
theorem f160_5 : fetch 160 5 = some (.aload_n 0, 0, 0, 0) := rfl
theorem f160_6 : fetch 160 6 = some (.getfield 38, 11, 8, 2) := rfl
theorem f160_9 : fetch 160 9 = some (.getfield 193, 0, 0, 0) := rfl
theorem f160_12 : fetch 160 12 = some (.if_icmp .ge 53, 65, 0, 0) := rfl
theorem f160_15 : fetch 160 15 = some (.aload_n 0, 0, 0, 0) := rfl
theorem f160_16 : fetch 160 16 = some (.getfield 73, 11, 13, 2) := rfl
theorem f160_19 : fetch 160 19 = some (.getfield 430, 4, 7, 2) := rfl
theorem f160_22 : fetch 160 22 = some (.iload_n 2, 0, 0, 0) := rfl
theorem f160_23 : fetch 160 23 = some (.iaload, 0, 0, 0) := rfl
theorem f160_24 : fetch 160 24 = some (.istore_n 3, 0, 0, 0) := rfl
theorem f160_25 : fetch 160 25 = some (.aload_n 0, 0, 0, 0) := rfl
theorem f160_26 : fetch 160 26 = some (.getfield 73, 11, 13, 2) := rfl
theorem f160_29 : fetch 160 29 = some (.iload_n 3, 0, 0, 0) := rfl
theorem f160_30 : fetch 160 30 = some (.invokevirtual 408, 62, 1, 0) := rfl
theorem f160_33 : fetch 160 33 = some (.ifCond .eq 26, 59, 0, 0) := rfl
theorem f160_36 : fetch 160 36 = some (.aload_n 0, 0, 0, 0) := rfl
theorem f160_37 : fetch 160 37 = some (.iload_n 3, 0, 0, 0) := rfl
theorem f160_38 : fetch 160 38 = some (.aload_n 0, 0, 0, 0) := rfl
theorem f160_39 : fetch 160 39 = some (.getfield 88, 11, 0, 0) := rfl
theorem f160_42 : fetch 160 42 = some (.invokevirtual 414, 185, 2, 0) := rfl
theorem f160_45 : fetch 160 45 = some (.ifCond .ne 14, 59, 0, 0) := rfl
theorem f160_48 : fetch 160 48 = some (.aload_n 0, 0, 0, 0) := rfl
theorem f160_49 : fetch 160 49 = some (.getfield 73, 11, 13, 2) := rfl
theorem f160_52 : fetch 160 52 = some (.iload_n 2, 0, 0, 0) := rfl
theorem f160_53 : fetch 160 53 = some (.invokevirtual 433, 66, 1, 0) := rfl
theorem f160_56 : fetch 160 56 = some (.iinc 1 1, 0, 0, 0) := rfl
theorem f160_59 : fetch 160 59 = some (.iinc 2 1, 0, 0, 0) := rfl
theorem f160_62 : fetch 160 62 = some (.goto (-58), 4, 0, 0) := rfl
theorem f160_65 : fetch 160 65 = some (.iload_n 1, 0, 0, 0) := rfl
theorem f160_66 : fetch 160 66 = some (.ireturn, 0, 0, 0) := rfl
set_option maxRecDepth 100000 in
set_option maxHeartbeats 4000000 in
theorem p160_j59_ok (d : Nat) (F : Nat) (K4 : HS → Int32 → Int32 → Option (Int32 × HS)) (hK4 : ∀ (h : HS) (w : WF h) (u1 : Int32) (u2 : Int32) (r : Int32 × HS), K4 h u1 u2 = some r → ex (d + 5) 160 (4, [some (.ref (32)), some (.int (u1)), some (.int (u2)), none], [], h) = some (some (.int (r.1)), r.2)) (h : HS) (w : WF h) (v1 : Int32) (v2 : Int32) (r : Int32 × HS) (hp : p160_j59 F K4 h v1 v2 = some r) : ex (d + 5) 160 (59, [some (.ref (32)), some (.int (v1)), some (.int (v2)), none], [], h) = some (some (.int (r.1)), r.2) := by
  unfold p160_j59 at hp
  refine e_iinc (ls2 := [some (.ref (32)), some (.int (v1)), some (.int ((v2) + 1)), none]) f160_59 (by decide) rfl rfl ?_
  refine e_goto f160_62 ?_
  refine ex_weak (ls := [some (.ref (32)), some (.int (v1)), some (.int ((v2) + 1)), none]) (le2_ok ⟨Or.inr rfl, Or.inr rfl, Or.inr rfl, Or.inl rfl, trivial⟩) ?_
  exact hK4 (h) (w) (v1) ((v2) + 1) _ hp
set_option maxRecDepth 100000 in
set_option maxHeartbeats 4000000 in
theorem p160_j59_w (F : Nat) (K4 : HS → Int32 → Int32 → Option (Int32 × HS)) (hK4 : ∀ (h : HS) (w : WF h) (u1 : Int32) (u2 : Int32) (r : Int32 × HS), K4 h u1 u2 = some r → WF r.2) (h : HS) (w : WF h) (v1 : Int32) (v2 : Int32) (r : Int32 × HS) (hp : p160_j59 F K4 h v1 v2 = some r) : WF r.2 := by
  unfold p160_j59 at hp
  exact hK4 (h) (w) (v1) ((v2) + 1) _ hp
set_option maxRecDepth 100000 in
set_option maxHeartbeats 4000000 in
theorem p160_L4_ok (d : Nat) (F : Nat) : ∀ (n : Nat) (h : HS) (w : WF h) (v1 : Int32) (v2 : Int32) (r : Int32 × HS), p160_L4 F n h v1 v2 = some r → ex (d + 5) 160 (4, [some (.ref (32)), some (.int (v1)), some (.int (v2)), none], [], h) = some (some (.int (r.1)), r.2) := by
  intro n
  induction n with
  | zero => intro h w v1 v2 r hp; cases hp
  | succ n ih =>
    intro h w v1 v2 r hp
    unfold p160_L4 at hp
    refine e_iload_n f160_4 rfl ?_
    refine e_aload_n f160_5 rfl ?_
    refine e_getR f160_6 (WF.t w 32 (by decide)) rfl (WF.r (q := 50) w 32 8 (by decide)) ?_
    refine e_getI f160_9 (WF.t w 50 (by decide)) (by decide) ?_
    by_cases hc1 : (v2) < ((hI (h) (50) 0) : Int32)
    · rw [if_pos hc1] at hp
      refine e_icmp_ge_f f160_12 hc1 ?_
      refine e_aload_n f160_15 rfl ?_
      refine e_getR f160_16 (WF.t w 32 (by decide)) rfl (WF.r (q := 68) w 32 13 (by decide)) ?_
      refine e_getR f160_19 (WF.t w 68 (by decide)) rfl (WF.r (q := 75) w 68 7 (by decide)) ?_
      refine e_iload_n f160_22 rfl ?_
      by_cases hg2 : (v2) < (0 : Int32) ∨ 60 ≤ (v2).toNatClampNeg
      · rw [if_pos hg2] at hp; cases hp
      rw [if_neg hg2] at hp
      refine e_iaload f160_23 (Or.inl (WF.t w 75 (by decide))) (WF.n w 75 (by decide)) hg2 ?_
      refine e_istore_n (ls2 := [some (.ref (32)), some (.int (v1)), some (.int (v2)), some (.int (hI (h) (75) (v2).toNatClampNeg))]) f160_24 (Nat.le_of_ble_eq_true rfl) rfl ?_
      refine e_aload_n f160_25 rfl ?_
      refine e_getR f160_26 (WF.t w 32 (by decide)) rfl (WF.r (q := 68) w 32 13 (by decide)) ?_
      refine e_iload_n f160_29 rfl ?_
      obtain ⟨r3, hr4, hp⟩ := bind_some hp
      try dsimp only at hp
      refine e_callV (st := []) (o := 68) (as := [.int (hI (h) (75) (v2).toNatClampNeg)]) f160_30 (by decide) rfl rfl (Nat.le_of_ble_eq_true rfl) (WF.t w 68 (by decide)) (Nat.le_of_ble_eq_true rfl) (p62_ok (d + 3) (h) w (hI (h) (75) (v2).toNatClampNeg) r3 hr4) ?_
      show ex _ 160 (33, [some (.ref (32)), some (.int (v1)), some (.int (v2)), some (.int (hI (h) (75) (v2).toNatClampNeg))], [.int (r3)], h) = _
      by_cases hc5 : (r3) = (0 : Int32)
      · rw [if_pos hc5] at hp
        refine e_if_eq_t f160_33 hc5 ?_
        refine ex_weak (ls := [some (.ref (32)), some (.int (v1)), some (.int (v2)), none]) (le2_ok ⟨Or.inr rfl, Or.inr rfl, Or.inr rfl, Or.inl rfl, trivial⟩) ?_
        exact p160_j59_ok d F ((p160_L4 F n)) (ih) (h) (w) (v1) (v2) _ hp
      · rw [if_neg hc5] at hp
        refine e_if_eq_f f160_33 hc5 ?_
        refine e_aload_n f160_36 rfl ?_
        refine e_iload_n f160_37 rfl ?_
        refine e_aload_n f160_38 rfl ?_
        refine e_getI f160_39 (WF.t w 32 (by decide)) (by decide) ?_
        obtain ⟨r6, hr7, hp⟩ := bind_some hp
        try dsimp only at hp
        refine e_callV (st := []) (o := 32) (as := [.int (hI (h) (75) (v2).toNatClampNeg), .int (hI (h) (32) 0)]) f160_42 (by decide) rfl rfl (Nat.le_of_ble_eq_true rfl) (WF.t w 32 (by decide)) (Nat.le_of_ble_eq_true rfl) (p185_ok d F (h) w (hI (h) (75) (v2).toNatClampNeg) (hI (h) (32) 0) r6 hr7) ?_
        show ex _ 160 (45, [some (.ref (32)), some (.int (v1)), some (.int (v2)), some (.int (hI (h) (75) (v2).toNatClampNeg))], [.int (r6.1)], r6.2) = _
        by_cases hc8 : (r6.1) = (0 : Int32)
        · rw [if_pos hc8] at hp
          refine e_if_ne_f f160_45 hc8 ?_
          refine e_aload_n f160_48 rfl ?_
          refine e_getR f160_49 (WF.t (p185_w F (h) w (hI (h) (75) (v2).toNatClampNeg) (hI (h) (32) 0)  r6 hr7) 32 (by decide)) rfl (WF.r (q := 68) (p185_w F (h) w (hI (h) (75) (v2).toNatClampNeg) (hI (h) (32) 0)  r6 hr7) 32 13 (by decide)) ?_
          refine e_iload_n f160_52 rfl ?_
          obtain ⟨r9, hr10, hp⟩ := bind_some hp
          try dsimp only at hp
          refine e_callV (st := []) (o := 68) (as := [.int (v2)]) f160_53 (by decide) rfl rfl (Nat.le_of_ble_eq_true rfl) (WF.t (p185_w F (h) w (hI (h) (75) (v2).toNatClampNeg) (hI (h) (32) 0)  r6 hr7) 68 (by decide)) (Nat.le_of_ble_eq_true rfl) (p66_ok (d + 4) (r6.2) (p185_w F (h) w (hI (h) (75) (v2).toNatClampNeg) (hI (h) (32) 0)  r6 hr7) (v2) r9 hr10) ?_
          show ex _ 160 (56, [some (.ref (32)), some (.int (v1)), some (.int (v2)), some (.int (hI (h) (75) (v2).toNatClampNeg))], [], r9) = _
          refine e_iinc (ls2 := [some (.ref (32)), some (.int ((v1) + 1)), some (.int (v2)), some (.int (hI (h) (75) (v2).toNatClampNeg))]) f160_56 (by decide) rfl rfl ?_
          refine ex_weak (ls := [some (.ref (32)), some (.int ((v1) + 1)), some (.int (v2)), none]) (le2_ok ⟨Or.inr rfl, Or.inr rfl, Or.inr rfl, Or.inl rfl, trivial⟩) ?_
          exact p160_j59_ok d F ((p160_L4 F n)) (ih) (r9) ((p66_w (r6.2) (p185_w F (h) w (hI (h) (75) (v2).toNatClampNeg) (hI (h) (32) 0)  r6 hr7) (v2)  r9 hr10)) ((v1) + 1) (v2) _ hp
        · rw [if_neg hc8] at hp
          refine e_if_ne_t f160_45 hc8 ?_
          refine ex_weak (ls := [some (.ref (32)), some (.int (v1)), some (.int (v2)), none]) (le2_ok ⟨Or.inr rfl, Or.inr rfl, Or.inr rfl, Or.inl rfl, trivial⟩) ?_
          exact p160_j59_ok d F ((p160_L4 F n)) (ih) (r6.2) ((p185_w F (h) w (hI (h) (75) (v2).toNatClampNeg) (hI (h) (32) 0)  r6 hr7)) (v1) (v2) _ hp
    · rw [if_neg hc1] at hp
      refine e_icmp_ge_t f160_12 hc1 ?_
      refine e_iload_n f160_65 rfl ?_
      have hp := Option.some.inj hp
      subst hp
      exact e_ireturn f160_66 (Or.inl rfl)
set_option maxRecDepth 100000 in
set_option maxHeartbeats 4000000 in
theorem p160_L4_w (F : Nat) : ∀ (n : Nat) (h : HS) (w : WF h) (v1 : Int32) (v2 : Int32) (r : Int32 × HS), p160_L4 F n h v1 v2 = some r → WF r.2 := by
  intro n
  induction n with
  | zero => intro h w v1 v2 r hp; cases hp
  | succ n ih =>
    intro h w v1 v2 r hp
    unfold p160_L4 at hp
    by_cases hc1 : (v2) < ((hI (h) (50) 0) : Int32)
    · rw [if_pos hc1] at hp
      by_cases hg2 : (v2) < (0 : Int32) ∨ 60 ≤ (v2).toNatClampNeg
      · rw [if_pos hg2] at hp; cases hp
      rw [if_neg hg2] at hp
      obtain ⟨r3, hr4, hp⟩ := bind_some hp
      try dsimp only at hp
      by_cases hc5 : (r3) = (0 : Int32)
      · rw [if_pos hc5] at hp
        exact p160_j59_w F ((p160_L4 F n)) (ih) (h) (w) (v1) (v2) _ hp
      · rw [if_neg hc5] at hp
        obtain ⟨r6, hr7, hp⟩ := bind_some hp
        try dsimp only at hp
        by_cases hc8 : (r6.1) = (0 : Int32)
        · rw [if_pos hc8] at hp
          obtain ⟨r9, hr10, hp⟩ := bind_some hp
          try dsimp only at hp
          exact p160_j59_w F ((p160_L4 F n)) (ih) (r9) ((p66_w (r6.2) (p185_w F (h) w (hI (h) (75) (v2).toNatClampNeg) (hI (h) (32) 0)  r6 hr7) (v2)  r9 hr10)) ((v1) + 1) (v2) _ hp
        · rw [if_neg hc8] at hp
          exact p160_j59_w F ((p160_L4 F n)) (ih) (r6.2) ((p185_w F (h) w (hI (h) (75) (v2).toNatClampNeg) (hI (h) (32) 0)  r6 hr7)) (v1) (v2) _ hp
    · rw [if_neg hc1] at hp
      have hp := Option.some.inj hp
      subst hp
      exact (w)
set_option maxRecDepth 100000 in
set_option maxHeartbeats 4000000 in
theorem p160_ok (d : Nat) (F : Nat) (h : HS) (w : WF h) (r : Int32 × HS) (hp : p160 F h = some r) : ex (d + 5) 160 (ent 160 [.ref (32)] h) = some (some (.int (r.1)), r.2) := by
  rw [show ent 160 [.ref (32)] h = (0, [some (.ref (32)), none, none, none], [], h) from by  rfl]
  refine ex_weak (ls := [some (.ref (32)), none, none, none]) (le2_ok ⟨Or.inr rfl, Or.inr rfl, Or.inr rfl, Or.inr rfl, trivial⟩) ?_
  unfold p160 at hp
  refine e_iconst (v := 0) f160_0 (by decide) ?_
  refine e_istore_n (ls2 := [some (.ref (32)), some (.int (0)), none, none]) f160_1 (Nat.le_of_ble_eq_true rfl) rfl ?_
  refine e_iconst (v := 0) f160_2 (by decide) ?_
  refine e_istore_n (ls2 := [some (.ref (32)), some (.int (0)), some (.int (0)), none]) f160_3 (Nat.le_of_ble_eq_true rfl) rfl ?_
  refine ex_weak (ls := [some (.ref (32)), some (.int (0)), some (.int (0)), none]) (le2_ok ⟨Or.inr rfl, Or.inr rfl, Or.inr rfl, Or.inl rfl, trivial⟩) ?_
  exact p160_L4_ok d F F (h) (w) (0) (0) _ hp
set_option maxRecDepth 100000 in
set_option maxHeartbeats 4000000 in
theorem p160_w (F : Nat) (h : HS) (w : WF h) (r : Int32 × HS) (hp : p160 F h = some r) : WF r.2 := by
  unfold p160 at hp
  exact p160_L4_w F F (h) (w) (0) (0) _ hp
theorem f161_0 : fetch 161 0 = some (.aload_n 0, 0, 0, 0) := rfl
theorem f161_1 : fetch 161 1 = some (.getfield 38, 11, 8, 2) := rfl
theorem f161_4 : fetch 161 4 = some (.iload_n 1, 0, 0, 0) := rfl
theorem f161_5 : fetch 161 5 = some (.invokevirtual 202, 1, 1, 0) := rfl
theorem f161_8 : fetch 161 8 = some (.ifCond .ne 6, 14, 0, 0) := rfl
theorem f161_11 : fetch 161 11 = some (.bipush (-2), 0, 0, 0) := rfl
theorem f161_13 : fetch 161 13 = some (.ireturn, 0, 0, 0) := rfl
theorem f161_14 : fetch 161 14 = some (.iload_n 2, 0, 0, 0) := rfl
theorem f161_15 : fetch 161 15 = some (.tableswitch 70 0 2 #[25, 50, 60], 0, 0, 0) := rfl
theorem f161_40 : fetch 161 40 = some (.aload_n 0, 0, 0, 0) := rfl
theorem f161_41 : fetch 161 41 = some (.getfield 73, 11, 13, 2) := rfl
theorem f161_44 : fetch 161 44 = some (.iload_n 1, 0, 0, 0) := rfl
theorem f161_45 : fetch 161 45 = some (.invokevirtual 427, 65, 1, 0) := rfl
theorem f161_48 : fetch 161 48 = some (.ifCond .eq 15, 63, 0, 0) := rfl
theorem f161_51 : fetch 161 51 = some (.aload_n 0, 0, 0, 0) := rfl
theorem f161_52 : fetch 161 52 = some (.getfield 73, 11, 13, 2) := rfl
theorem f161_55 : fetch 161 55 = some (.getfield 436, 4, 6, 2) := rfl
theorem f161_58 : fetch 161 58 = some (.iload_n 1, 0, 0, 0) := rfl
theorem f161_59 : fetch 161 59 = some (.iaload, 0, 0, 0) := rfl
theorem f161_60 : fetch 161 60 = some (.goto 4, 64, 0, 0) := rfl
theorem f161_63 : fetch 161 63 = some (.iconst (-1), 0, 0, 0) := rfl
theorem f161_64 : fetch 161 64 = some (.ireturn, 0, 0, 0) := rfl
theorem f161_65 : fetch 161 65 = some (.aload_n 0, 0, 0, 0) := rfl
theorem f161_66 : fetch 161 66 = some (.getfield 73, 11, 13, 2) := rfl
theorem f161_69 : fetch 161 69 = some (.getfield 430, 4, 7, 2) := rfl
theorem f161_72 : fetch 161 72 = some (.iload_n 1, 0, 0, 0) := rfl
theorem f161_73 : fetch 161 73 = some (.iaload, 0, 0, 0) := rfl
theorem f161_74 : fetch 161 74 = some (.ireturn, 0, 0, 0) := rfl
theorem f161_75 : fetch 161 75 = some (.aload_n 0, 0, 0, 0) := rfl
theorem f161_76 : fetch 161 76 = some (.getfield 73, 11, 13, 2) := rfl
theorem f161_79 : fetch 161 79 = some (.getfield 439, 4, 8, 2) := rfl
theorem f161_82 : fetch 161 82 = some (.iload_n 1, 0, 0, 0) := rfl
theorem f161_83 : fetch 161 83 = some (.iaload, 0, 0, 0) := rfl
theorem f161_84 : fetch 161 84 = some (.ireturn, 0, 0, 0) := rfl
theorem f161_85 : fetch 161 85 = some (.bipush (-2), 0, 0, 0) := rfl
theorem f161_87 : fetch 161 87 = some (.ireturn, 0, 0, 0) := rfl
set_option maxRecDepth 100000 in
set_option maxHeartbeats 4000000 in
theorem p161_ok (d : Nat) (h : HS) (w : WF h) (a0 : Int32) (a1 : Int32) (r : Int32) (hp : p161 h a0 a1 = some r) : ex (d + 2) 161 (ent 161 [.ref (32), .int (a0), .int (a1)] h) = some (some (.int (r)), h) := by
  rw [show ent 161 [.ref (32), .int (a0), .int (a1)] h = (0, [some (.ref (32)), some (.int (a0)), some (.int (a1))], [], h) from by  rfl]
  refine ex_weak (ls := [some (.ref (32)), some (.int (a0)), some (.int (a1))]) (le2_ok ⟨Or.inr rfl, Or.inr rfl, Or.inr rfl, trivial⟩) ?_
  unfold p161 at hp
  refine e_aload_n f161_0 rfl ?_
  refine e_getR f161_1 (WF.t w 32 (by decide)) rfl (WF.r (q := 50) w 32 8 (by decide)) ?_
  refine e_iload_n f161_4 rfl ?_
  obtain ⟨r1, hr2, hp⟩ := bind_some hp
  try dsimp only at hp
  refine e_callV (st := []) (o := 50) (as := [.int (a0)]) f161_5 (by decide) rfl rfl (Nat.le_of_ble_eq_true rfl) (WF.t w 50 (by decide)) (Nat.le_of_ble_eq_true rfl) (p1_ok d (h) w (a0) r1 hr2) ?_
  show ex _ 161 (8, [some (.ref (32)), some (.int (a0)), some (.int (a1))], [.int (r1)], h) = _
  by_cases hc3 : (r1) = (0 : Int32)
  · rw [if_pos hc3] at hp
    refine e_if_ne_f f161_8 hc3 ?_
    refine e_bipush (v := -2) f161_11 (by decide) ?_
    have hp := Option.some.inj hp
    subst hp
    exact e_ireturn f161_13 (Or.inl rfl)
  · rw [if_neg hc3] at hp
    refine e_if_ne_t f161_8 hc3 ?_
    refine e_iload_n f161_14 rfl ?_
    by_cases hc4 : (a1) = (0 : Int32)
    · rw [if_pos hc4] at hp
      refine e_sw (t := 40) f161_15 (by rw [hc4]; decide) (by rw [hc4]; decide) ?_
      refine e_aload_n f161_40 rfl ?_
      refine e_getR f161_41 (WF.t w 32 (by decide)) rfl (WF.r (q := 68) w 32 13 (by decide)) ?_
      refine e_iload_n f161_44 rfl ?_
      obtain ⟨r5, hr6, hp⟩ := bind_some hp
      try dsimp only at hp
      refine e_callV (st := []) (o := 68) (as := [.int (a0)]) f161_45 (by decide) rfl rfl (Nat.le_of_ble_eq_true rfl) (WF.t w 68 (by decide)) (Nat.le_of_ble_eq_true rfl) (p65_ok (d + 1) (h) w (a0) r5 hr6) ?_
      show ex _ 161 (48, [some (.ref (32)), some (.int (a0)), some (.int (a1))], [.int (r5)], h) = _
      by_cases hc7 : (r5) = (0 : Int32)
      · rw [if_pos hc7] at hp
        refine e_if_eq_t f161_48 hc7 ?_
        refine e_iconst (v := -1) f161_63 (by decide) ?_
        have hp := Option.some.inj hp
        subst hp
        exact e_ireturn f161_64 (Or.inl rfl)
      · rw [if_neg hc7] at hp
        refine e_if_eq_f f161_48 hc7 ?_
        refine e_aload_n f161_51 rfl ?_
        refine e_getR f161_52 (WF.t w 32 (by decide)) rfl (WF.r (q := 68) w 32 13 (by decide)) ?_
        refine e_getR f161_55 (WF.t w 68 (by decide)) rfl (WF.r (q := 74) w 68 6 (by decide)) ?_
        refine e_iload_n f161_58 rfl ?_
        by_cases hg8 : (a0) < (0 : Int32) ∨ 60 ≤ (a0).toNatClampNeg
        · rw [if_pos hg8] at hp; cases hp
        rw [if_neg hg8] at hp
        refine e_iaload f161_59 (Or.inl (WF.t w 74 (by decide))) (WF.n w 74 (by decide)) hg8 ?_
        refine e_goto f161_60 ?_
        have hp := Option.some.inj hp
        subst hp
        exact e_ireturn f161_64 (Or.inl rfl)
    rw [if_neg hc4] at hp
    by_cases hc9 : (a1) = (1 : Int32)
    · rw [if_pos hc9] at hp
      refine e_sw (t := 65) f161_15 (by rw [hc9]; decide) (by rw [hc9]; decide) ?_
      refine e_aload_n f161_65 rfl ?_
      refine e_getR f161_66 (WF.t w 32 (by decide)) rfl (WF.r (q := 68) w 32 13 (by decide)) ?_
      refine e_getR f161_69 (WF.t w 68 (by decide)) rfl (WF.r (q := 75) w 68 7 (by decide)) ?_
      refine e_iload_n f161_72 rfl ?_
      by_cases hg10 : (a0) < (0 : Int32) ∨ 60 ≤ (a0).toNatClampNeg
      · rw [if_pos hg10] at hp; cases hp
      rw [if_neg hg10] at hp
      refine e_iaload f161_73 (Or.inl (WF.t w 75 (by decide))) (WF.n w 75 (by decide)) hg10 ?_
      have hp := Option.some.inj hp
      subst hp
      exact e_ireturn f161_74 (Or.inl rfl)
    rw [if_neg hc9] at hp
    by_cases hc11 : (a1) = (2 : Int32)
    · rw [if_pos hc11] at hp
      refine e_sw (t := 75) f161_15 (by rw [hc11]; decide) (by rw [hc11]; decide) ?_
      refine e_aload_n f161_75 rfl ?_
      refine e_getR f161_76 (WF.t w 32 (by decide)) rfl (WF.r (q := 68) w 32 13 (by decide)) ?_
      refine e_getR f161_79 (WF.t w 68 (by decide)) rfl (WF.r (q := 76) w 68 8 (by decide)) ?_
      refine e_iload_n f161_82 rfl ?_
      by_cases hg12 : (a0) < (0 : Int32) ∨ 60 ≤ (a0).toNatClampNeg
      · rw [if_pos hg12] at hp; cases hp
      rw [if_neg hg12] at hp
      refine e_iaload f161_83 (Or.inl (WF.t w 76 (by decide))) (WF.n w 76 (by decide)) hg12 ?_
      have hp := Option.some.inj hp
      subst hp
      exact e_ireturn f161_84 (Or.inl rfl)
    rw [if_neg hc11] at hp
    have ho13 := sw_out (x := a1) 0 2 (fun j h1 h2 => by
      rcases (show j = 0 ∨ j = 1 ∨ j = 2 by omega) with rfl | rfl | rfl
      · exact i32_ne hc4 (by decide)
      · exact i32_ne hc9 (by decide)
      · exact i32_ne hc11 (by decide))
    refine e_sw (t := 85) f161_15 ⟨by rw [swTo, if_pos ho13]; decide, by decide⟩ (by rw [swTo, if_pos ho13]; decide) ?_
    refine e_bipush (v := -2) f161_85 (by decide) ?_
    have hp := Option.some.inj hp
    subst hp
    exact e_ireturn f161_87 (Or.inl rfl)
theorem f162_0 : fetch 162 0 = some (.aload_n 0, 0, 0, 0) := rfl
theorem f162_1 : fetch 162 1 = some (.getfield 80, 11, 14, 2) := rfl
theorem f162_4 : fetch 162 4 = some (.iload_n 1, 0, 0, 0) := rfl
theorem f162_5 : fetch 162 5 = some (.iload_n 2, 0, 0, 0) := rfl
theorem f162_6 : fetch 162 6 = some (.invokevirtual 442, 74, 2, 0) := rfl
theorem f162_9 : fetch 162 9 = some (.ireturn, 0, 0, 0) := rfl
set_option maxRecDepth 100000 in
set_option maxHeartbeats 4000000 in
theorem p162_ok (d : Nat) (h : HS) (w : WF h) (a0 : Int32) (a1 : Int32) (r : Int32 × HS) (hp : p162 h a0 a1 = some r) : ex (d + 2) 162 (ent 162 [.ref (32), .int (a0), .int (a1)] h) = some (some (.int (r.1)), r.2) := by
  rw [show ent 162 [.ref (32), .int (a0), .int (a1)] h = (0, [some (.ref (32)), some (.int (a0)), some (.int (a1))], [], h) from by  rfl]
  refine ex_weak (ls := [some (.ref (32)), some (.int (a0)), some (.int (a1))]) (le2_ok ⟨Or.inr rfl, Or.inr rfl, Or.inr rfl, trivial⟩) ?_
  unfold p162 at hp
  refine e_aload_n f162_0 rfl ?_
  refine e_getR f162_1 (WF.t w 32 (by decide)) rfl (WF.r (q := 77) w 32 14 (by decide)) ?_
  refine e_iload_n f162_4 rfl ?_
  refine e_iload_n f162_5 rfl ?_
  obtain ⟨r1, hr2, hp⟩ := bind_some hp
  try dsimp only at hp
  refine e_callV (st := []) (o := 77) (as := [.int (a0), .int (a1)]) f162_6 (by decide) rfl rfl (Nat.le_of_ble_eq_true rfl) (WF.t w 77 (by decide)) (Nat.le_of_ble_eq_true rfl) (p74_ok d (h) w (a0) (a1) r1 hr2) ?_
  show ex _ 162 (9, [some (.ref (32)), some (.int (a0)), some (.int (a1))], [.int (r1.1)], r1.2) = _
  have hp := Option.some.inj hp
  subst hp
  exact e_ireturn f162_9 (Or.inl rfl)
set_option maxRecDepth 100000 in
set_option maxHeartbeats 4000000 in
theorem p162_w (h : HS) (w : WF h) (a0 : Int32) (a1 : Int32) (r : Int32 × HS) (hp : p162 h a0 a1 = some r) : WF r.2 := by
  unfold p162 at hp
  obtain ⟨r1, hr2, hp⟩ := bind_some hp
  try dsimp only at hp
  have hp := Option.some.inj hp
  subst hp
  exact ((p74_w (h) w (a0) (a1)  r1 hr2))
theorem f163_0 : fetch 163 0 = some (.aload_n 0, 0, 0, 0) := rfl
theorem f163_1 : fetch 163 1 = some (.getfield 80, 11, 14, 2) := rfl
theorem f163_4 : fetch 163 4 = some (.iload_n 1, 0, 0, 0) := rfl
theorem f163_5 : fetch 163 5 = some (.lload_n 2, 0, 0, 0) := rfl
theorem f163_6 : fetch 163 6 = some (.invokevirtual 445, 76, 2, 0) := rfl
theorem f163_9 : fetch 163 9 = some (.lreturn, 0, 0, 0) := rfl
set_option maxRecDepth 100000 in
set_option maxHeartbeats 4000000 in
theorem p163_ok (d : Nat) (F : Nat) (h : HS) (w : WF h) (a0 : Int32) (a1 : Int64) (r : Int64 × HS) (hp : p163 F h a0 a1 = some r) : ex (d + 4) 163 (ent 163 [.ref (32), .int (a0), .long (a1)] h) = some (some (.long (r.1)), r.2) := by
  rw [show ent 163 [.ref (32), .int (a0), .long (a1)] h = (0, [some (.ref (32)), some (.int (a0)), some (.long (a1)), none], [], h) from by  rfl]
  refine ex_weak (ls := [some (.ref (32)), some (.int (a0)), some (.long (a1)), none]) (le2_ok ⟨Or.inr rfl, Or.inr rfl, Or.inr rfl, Or.inr rfl, trivial⟩) ?_
  unfold p163 at hp
  refine e_aload_n f163_0 rfl ?_
  refine e_getR f163_1 (WF.t w 32 (by decide)) rfl (WF.r (q := 77) w 32 14 (by decide)) ?_
  refine e_iload_n f163_4 rfl ?_
  refine e_lload_n f163_5 rfl ?_
  obtain ⟨r1, hr2, hp⟩ := bind_some hp
  try dsimp only at hp
  refine e_callV (st := []) (o := 77) (as := [.int (a0), .long (a1)]) f163_6 (by decide) rfl rfl (Nat.le_of_ble_eq_true rfl) (WF.t w 77 (by decide)) (Nat.le_of_ble_eq_true rfl) (p76_ok d F (h) w (a0) (a1) r1 hr2) ?_
  show ex _ 163 (9, [some (.ref (32)), some (.int (a0)), some (.long (a1)), none], [.long (r1.1)], r1.2) = _
  have hp := Option.some.inj hp
  subst hp
  exact e_lreturn f163_9
set_option maxRecDepth 100000 in
set_option maxHeartbeats 4000000 in
theorem p163_w (F : Nat) (h : HS) (w : WF h) (a0 : Int32) (a1 : Int64) (r : Int64 × HS) (hp : p163 F h a0 a1 = some r) : WF r.2 := by
  unfold p163 at hp
  obtain ⟨r1, hr2, hp⟩ := bind_some hp
  try dsimp only at hp
  have hp := Option.some.inj hp
  subst hp
  exact ((p76_w F (h) w (a0) (a1)  r1 hr2))
theorem f164_0 : fetch 164 0 = some (.aload_n 0, 0, 0, 0) := rfl
theorem f164_1 : fetch 164 1 = some (.getfield 80, 11, 14, 2) := rfl
theorem f164_4 : fetch 164 4 = some (.iload_n 1, 0, 0, 0) := rfl
theorem f164_5 : fetch 164 5 = some (.invokevirtual 449, 75, 1, 0) := rfl
theorem f164_8 : fetch 164 8 = some (.ireturn, 0, 0, 0) := rfl
set_option maxRecDepth 100000 in
set_option maxHeartbeats 4000000 in
theorem p164_ok (d : Nat) (h : HS) (w : WF h) (a0 : Int32) (r : Int32) (hp : p164 h a0 = some r) : ex (d + 2) 164 (ent 164 [.ref (32), .int (a0)] h) = some (some (.int (r)), h) := by
  rw [show ent 164 [.ref (32), .int (a0)] h = (0, [some (.ref (32)), some (.int (a0))], [], h) from by  rfl]
  refine ex_weak (ls := [some (.ref (32)), some (.int (a0))]) (le2_ok ⟨Or.inr rfl, Or.inr rfl, trivial⟩) ?_
  unfold p164 at hp
  refine e_aload_n f164_0 rfl ?_
  refine e_getR f164_1 (WF.t w 32 (by decide)) rfl (WF.r (q := 77) w 32 14 (by decide)) ?_
  refine e_iload_n f164_4 rfl ?_
  obtain ⟨r1, hr2, hp⟩ := bind_some hp
  try dsimp only at hp
  refine e_callV (st := []) (o := 77) (as := [.int (a0)]) f164_5 (by decide) rfl rfl (Nat.le_of_ble_eq_true rfl) (WF.t w 77 (by decide)) (Nat.le_of_ble_eq_true rfl) (p75_ok d (h) w (a0) r1 hr2) ?_
  show ex _ 164 (8, [some (.ref (32)), some (.int (a0))], [.int (r1)], h) = _
  have hp := Option.some.inj hp
  subst hp
  exact e_ireturn f164_8 (Or.inl rfl)
theorem f174_0 : fetch 174 0 = some (.iconst 0, 0, 0, 0) := rfl
theorem f174_1 : fetch 174 1 = some (.istore_n 1, 0, 0, 0) := rfl
theorem f174_2 : fetch 174 2 = some (.iconst 0, 0, 0, 0) := rfl
theorem f174_3 : fetch 174 3 = some (.istore_n 2, 0, 0, 0) := rfl
theorem f174_4 : fetch 174 4 = some (.iload_n 2, 0, 0, 0) := rfl
theorem f174_5 : fetch 174 5 = some (.aload_n 0, 0, 0, 0) := rfl
theorem f174_6 : fetch 174 6 = some (.getfield 348, 11, 4, 0) := rfl
theorem f174_9 : fetch 174 9 = some (.if_icmp .ge 24, 33, 0, 0) := rfl
theorem f174_12 : fetch 174 12 = some (.aload_n 0, 0, 0, 0) := rfl
theorem f174_13 : fetch 174 13 = some (.getfield 66, 11, 12, 2) := rfl
theorem f174_16 : fetch 174 16 = some (.iload_n 2, 0, 0, 0) := rfl
theorem f174_17 : fetch 174 17 = some (.aaload, 0, 0, 0) := rfl
theorem f174_18 : fetch 174 18 = some (.getfield 376, 6, 2, 2) := rfl
theorem f174_21 : fetch 174 21 = some (.ifnull 6, 27, 0, 0) := rfl
theorem f174_24 : fetch 174 24 = some (.iinc 1 1, 0, 0, 0) := rfl
theorem f174_27 : fetch 174 27 = some (.iinc 2 1, 0, 0, 0) := rfl
theorem f174_30 : fetch 174 30 = some (.goto (-26), 4, 0, 0) := rfl
theorem f174_33 : fetch 174 33 = some (.iload_n 1, 0, 0, 0) := rfl
theorem f174_34 : fetch 174 34 = some (.ireturn, 0, 0, 0) := rfl
set_option maxRecDepth 100000 in
set_option maxHeartbeats 4000000 in
theorem p174_j27_ok (d : Nat) (F : Nat) (K4 : Int32 → Int32 → Option (Int32)) (h : HS) (w : WF h) (hK4 : ∀ (u1 : Int32) (u2 : Int32) (r : Int32), K4 u1 u2 = some r → ex (d + 0) 174 (4, [some (.ref (32)), some (.int (u1)), some (.int (u2))], [], h) = some (some (.int (r)), h)) (v1 : Int32) (v2 : Int32) (r : Int32) (hp : p174_j27 F K4 h v1 v2 = some r) : ex (d + 0) 174 (27, [some (.ref (32)), some (.int (v1)), some (.int (v2))], [], h) = some (some (.int (r)), h) := by
  unfold p174_j27 at hp
  refine e_iinc (ls2 := [some (.ref (32)), some (.int (v1)), some (.int ((v2) + 1))]) f174_27 (by decide) rfl rfl ?_
  refine e_goto f174_30 ?_
  refine ex_weak (ls := [some (.ref (32)), some (.int (v1)), some (.int ((v2) + 1))]) (le2_ok ⟨Or.inr rfl, Or.inr rfl, Or.inr rfl, trivial⟩) ?_
  exact hK4 (v1) ((v2) + 1) _ hp
set_option maxRecDepth 100000 in
set_option maxHeartbeats 4000000 in
theorem p174_L4_ok (d : Nat) (F : Nat) (h : HS) (w : WF h)  : ∀ (n : Nat) (v1 : Int32) (v2 : Int32) (r : Int32), p174_L4 F n h v1 v2 = some r → ex (d + 0) 174 (4, [some (.ref (32)), some (.int (v1)), some (.int (v2))], [], h) = some (some (.int (r)), h) := by
  intro n
  induction n with
  | zero => intro v1 v2 r hp; cases hp
  | succ n ih =>
    intro v1 v2 r hp
    unfold p174_L4 at hp
    refine e_iload_n f174_4 rfl ?_
    refine e_aload_n f174_5 rfl ?_
    refine e_getI f174_6 (WF.t w 32 (by decide)) (by decide) ?_
    by_cases hc1 : (v2) < ((hI (h) (32) 4) : Int32)
    · rw [if_pos hc1] at hp
      refine e_icmp_ge_f f174_9 hc1 ?_
      refine e_aload_n f174_12 rfl ?_
      refine e_getR f174_13 (WF.t w 32 (by decide)) rfl (WF.r (q := 67) w 32 12 (by decide)) ?_
      refine e_iload_n f174_16 rfl ?_
      by_cases hg2 : (v2) < (0 : Int32) ∨ 30 ≤ (v2).toNatClampNeg
      · rw [if_pos hg2] at hp; cases hp
      rw [if_neg hg2] at hp
      refine e_aaload f174_17 (Or.inr (Or.inr (Or.inl (WF.t w 67 (by decide))))) (WF.n w 67 (by decide)) hg2 ?_
      obtain ⟨o3, ho4, hp⟩ := bind_some hp
      try dsimp only at hp
      rw [ho4]
      by_cases hg5 : hT (h) (o3) = 6
      rotate_left
      · rw [if_neg hg5] at hp; cases hp
      rw [if_pos hg5] at hp
      refine e_getQ f174_18 hg5 rfl ?_
      by_cases hc6 : (hR (h) (o3) 2) = none
      · rw [if_pos hc6] at hp
        rw [hc6]
        refine e_ifnull_t f174_21 ?_
        refine ex_weak (ls := [some (.ref (32)), some (.int (v1)), some (.int (v2))]) (le2_ok ⟨Or.inr rfl, Or.inr rfl, Or.inr rfl, trivial⟩) ?_
        exact p174_j27_ok d F ((p174_L4 F n h)) (h) (w) (ih) (v1) (v2) _ hp
      · rw [if_neg hc6] at hp
        obtain ⟨o7, ho8, hp⟩ := bind_some hp
        try dsimp only at hp
        rw [ho8]
        refine e_ifnull_f f174_21 ?_
        refine e_iinc (ls2 := [some (.ref (32)), some (.int ((v1) + 1)), some (.int (v2))]) f174_24 (by decide) rfl rfl ?_
        refine ex_weak (ls := [some (.ref (32)), some (.int ((v1) + 1)), some (.int (v2))]) (le2_ok ⟨Or.inr rfl, Or.inr rfl, Or.inr rfl, trivial⟩) ?_
        exact p174_j27_ok d F ((p174_L4 F n h)) (h) (w) (ih) ((v1) + 1) (v2) _ hp
    · rw [if_neg hc1] at hp
      refine e_icmp_ge_t f174_9 hc1 ?_
      refine e_iload_n f174_33 rfl ?_
      have hp := Option.some.inj hp
      subst hp
      exact e_ireturn f174_34 (Or.inl rfl)
set_option maxRecDepth 100000 in
set_option maxHeartbeats 4000000 in
theorem p174_ok (d : Nat) (F : Nat) (h : HS) (w : WF h) (r : Int32) (hp : p174 F h = some r) : ex (d + 0) 174 (ent 174 [.ref (32)] h) = some (some (.int (r)), h) := by
  rw [show ent 174 [.ref (32)] h = (0, [some (.ref (32)), none, none], [], h) from by  rfl]
  refine ex_weak (ls := [some (.ref (32)), none, none]) (le2_ok ⟨Or.inr rfl, Or.inr rfl, Or.inr rfl, trivial⟩) ?_
  unfold p174 at hp
  refine e_iconst (v := 0) f174_0 (by decide) ?_
  refine e_istore_n (ls2 := [some (.ref (32)), some (.int (0)), none]) f174_1 (Nat.le_of_ble_eq_true rfl) rfl ?_
  refine e_iconst (v := 0) f174_2 (by decide) ?_
  refine e_istore_n (ls2 := [some (.ref (32)), some (.int (0)), some (.int (0))]) f174_3 (Nat.le_of_ble_eq_true rfl) rfl ?_
  refine ex_weak (ls := [some (.ref (32)), some (.int (0)), some (.int (0))]) (le2_ok ⟨Or.inr rfl, Or.inr rfl, Or.inr rfl, trivial⟩) ?_
  exact p174_L4_ok d F (h) (w) F (0) (0) _ hp
theorem f165_0 : fetch 165 0 = some (.iload_n 1, 0, 0, 0) := rfl
theorem f165_1 : fetch 165 1 = some (.tableswitch 192 0 15 #[79, 84, 92, 100, 108, 113, 121, 129, 137, 145, 153, 158, 163, 168, 176, 184], 0, 0, 0) := rfl
theorem f165_80 : fetch 165 80 = some (.aload_n 0, 0, 0, 0) := rfl
theorem f165_81 : fetch 165 81 = some (.getfield 88, 11, 0, 0) := rfl
theorem f165_84 : fetch 165 84 = some (.ireturn, 0, 0, 0) := rfl
theorem f165_85 : fetch 165 85 = some (.aload_n 0, 0, 0, 0) := rfl
theorem f165_86 : fetch 165 86 = some (.getfield 16, 11, 5, 2) := rfl
theorem f165_89 : fetch 165 89 = some (.getfield 452, 8, 0, 0) := rfl
theorem f165_92 : fetch 165 92 = some (.ireturn, 0, 0, 0) := rfl
theorem f165_93 : fetch 165 93 = some (.aload_n 0, 0, 0, 0) := rfl
theorem f165_94 : fetch 165 94 = some (.getfield 16, 11, 5, 2) := rfl
theorem f165_97 : fetch 165 97 = some (.getfield 455, 8, 1, 0) := rfl
theorem f165_100 : fetch 165 100 = some (.ireturn, 0, 0, 0) := rfl
theorem f165_101 : fetch 165 101 = some (.aload_n 0, 0, 0, 0) := rfl
theorem f165_102 : fetch 165 102 = some (.getfield 16, 11, 5, 2) := rfl
theorem f165_105 : fetch 165 105 = some (.invokevirtual 458, 92, 0, 0) := rfl
theorem f165_108 : fetch 165 108 = some (.ireturn, 0, 0, 0) := rfl
theorem f165_109 : fetch 165 109 = some (.aload_n 0, 0, 0, 0) := rfl
theorem f165_110 : fetch 165 110 = some (.getfield 143, 11, 2, 0) := rfl
theorem f165_113 : fetch 165 113 = some (.ireturn, 0, 0, 0) := rfl
theorem f165_114 : fetch 165 114 = some (.aload_n 0, 0, 0, 0) := rfl
theorem f165_115 : fetch 165 115 = some (.getfield 38, 11, 8, 2) := rfl
theorem f165_118 : fetch 165 118 = some (.getfield 193, 0, 0, 0) := rfl
theorem f165_121 : fetch 165 121 = some (.ireturn, 0, 0, 0) := rfl
theorem f165_122 : fetch 165 122 = some (.aload_n 0, 0, 0, 0) := rfl
theorem f165_123 : fetch 165 123 = some (.getfield 38, 11, 8, 2) := rfl
theorem f165_126 : fetch 165 126 = some (.getfield 199, 0, 2, 0) := rfl
theorem f165_129 : fetch 165 129 = some (.ireturn, 0, 0, 0) := rfl
theorem f165_130 : fetch 165 130 = some (.aload_n 0, 0, 0, 0) := rfl
theorem f165_131 : fetch 165 131 = some (.getfield 38, 11, 8, 2) := rfl
theorem f165_134 : fetch 165 134 = some (.getfield 461, 0, 1, 0) := rfl
theorem f165_137 : fetch 165 137 = some (.ireturn, 0, 0, 0) := rfl
theorem f165_138 : fetch 165 138 = some (.aload_n 0, 0, 0, 0) := rfl
theorem f165_139 : fetch 165 139 = some (.getfield 38, 11, 8, 2) := rfl
theorem f165_142 : fetch 165 142 = some (.getfield 239, 0, 3, 0) := rfl
theorem f165_145 : fetch 165 145 = some (.ireturn, 0, 0, 0) := rfl
theorem f165_146 : fetch 165 146 = some (.aload_n 0, 0, 0, 0) := rfl
theorem f165_147 : fetch 165 147 = some (.getfield 38, 11, 8, 2) := rfl
theorem f165_150 : fetch 165 150 = some (.getfield 298, 0, 4, 0) := rfl
theorem f165_153 : fetch 165 153 = some (.ireturn, 0, 0, 0) := rfl
theorem f165_154 : fetch 165 154 = some (.aload_n 0, 0, 0, 0) := rfl
theorem f165_155 : fetch 165 155 = some (.getfield 322, 11, 3, 0) := rfl
theorem f165_158 : fetch 165 158 = some (.ireturn, 0, 0, 0) := rfl
theorem f165_159 : fetch 165 159 = some (.aload_n 0, 0, 0, 0) := rfl
theorem f165_160 : fetch 165 160 = some (.getfield 348, 11, 4, 0) := rfl
theorem f165_163 : fetch 165 163 = some (.ireturn, 0, 0, 0) := rfl
theorem f165_164 : fetch 165 164 = some (.aload_n 0, 0, 0, 0) := rfl
theorem f165_165 : fetch 165 165 = some (.invokevirtual 464, 174, 0, 0) := rfl
theorem f165_168 : fetch 165 168 = some (.ireturn, 0, 0, 0) := rfl
theorem f165_169 : fetch 165 169 = some (.aload_n 0, 0, 0, 0) := rfl
theorem f165_170 : fetch 165 170 = some (.getfield 73, 11, 13, 2) := rfl
theorem f165_173 : fetch 165 173 = some (.getfield 467, 4, 0, 0) := rfl
theorem f165_176 : fetch 165 176 = some (.ireturn, 0, 0, 0) := rfl
theorem f165_177 : fetch 165 177 = some (.aload_n 0, 0, 0, 0) := rfl
theorem f165_178 : fetch 165 178 = some (.getfield 45, 11, 9, 2) := rfl
theorem f165_181 : fetch 165 181 = some (.getfield 319, 10, 0, 0) := rfl
theorem f165_184 : fetch 165 184 = some (.ireturn, 0, 0, 0) := rfl
theorem f165_185 : fetch 165 185 = some (.aload_n 0, 0, 0, 0) := rfl
theorem f165_186 : fetch 165 186 = some (.getfield 80, 11, 14, 2) := rfl
theorem f165_189 : fetch 165 189 = some (.getfield 470, 7, 1, 0) := rfl
theorem f165_192 : fetch 165 192 = some (.ireturn, 0, 0, 0) := rfl
theorem f165_193 : fetch 165 193 = some (.iconst (-1), 0, 0, 0) := rfl
theorem f165_194 : fetch 165 194 = some (.ireturn, 0, 0, 0) := rfl
set_option maxRecDepth 100000 in
set_option maxHeartbeats 4000000 in
theorem p165_ok (d : Nat) (F : Nat) (h : HS) (w : WF h) (a0 : Int32) (r : Int32) (hp : p165 F h a0 = some r) : ex (d + 1) 165 (ent 165 [.ref (32), .int (a0)] h) = some (some (.int (r)), h) := by
  rw [show ent 165 [.ref (32), .int (a0)] h = (0, [some (.ref (32)), some (.int (a0))], [], h) from by  rfl]
  refine ex_weak (ls := [some (.ref (32)), some (.int (a0))]) (le2_ok ⟨Or.inr rfl, Or.inr rfl, trivial⟩) ?_
  unfold p165 at hp
  refine e_iload_n f165_0 rfl ?_
  by_cases hc1 : (a0) = (0 : Int32)
  · rw [if_pos hc1] at hp
    refine e_sw (t := 80) f165_1 (by rw [hc1]; decide) (by rw [hc1]; decide) ?_
    refine e_aload_n f165_80 rfl ?_
    refine e_getI f165_81 (WF.t w 32 (by decide)) (by decide) ?_
    have hp := Option.some.inj hp
    subst hp
    exact e_ireturn f165_84 (Or.inl rfl)
  rw [if_neg hc1] at hp
  by_cases hc2 : (a0) = (1 : Int32)
  · rw [if_pos hc2] at hp
    refine e_sw (t := 85) f165_1 (by rw [hc2]; decide) (by rw [hc2]; decide) ?_
    refine e_aload_n f165_85 rfl ?_
    refine e_getR f165_86 (WF.t w 32 (by decide)) rfl (WF.r (q := 33) w 32 5 (by decide)) ?_
    refine e_getI f165_89 (WF.t w 33 (by decide)) (by decide) ?_
    have hp := Option.some.inj hp
    subst hp
    exact e_ireturn f165_92 (Or.inl rfl)
  rw [if_neg hc2] at hp
  by_cases hc3 : (a0) = (2 : Int32)
  · rw [if_pos hc3] at hp
    refine e_sw (t := 93) f165_1 (by rw [hc3]; decide) (by rw [hc3]; decide) ?_
    refine e_aload_n f165_93 rfl ?_
    refine e_getR f165_94 (WF.t w 32 (by decide)) rfl (WF.r (q := 33) w 32 5 (by decide)) ?_
    refine e_getI f165_97 (WF.t w 33 (by decide)) (by decide) ?_
    have hp := Option.some.inj hp
    subst hp
    exact e_ireturn f165_100 (Or.inl rfl)
  rw [if_neg hc3] at hp
  by_cases hc4 : (a0) = (3 : Int32)
  · rw [if_pos hc4] at hp
    refine e_sw (t := 101) f165_1 (by rw [hc4]; decide) (by rw [hc4]; decide) ?_
    refine e_aload_n f165_101 rfl ?_
    refine e_getR f165_102 (WF.t w 32 (by decide)) rfl (WF.r (q := 33) w 32 5 (by decide)) ?_
    obtain ⟨r5, hr6, hp⟩ := bind_some hp
    try dsimp only at hp
    refine e_callV (st := []) (o := 33) (as := []) f165_105 (by decide) rfl rfl (Nat.le_of_ble_eq_true rfl) (WF.t w 33 (by decide)) (Nat.le_of_ble_eq_true rfl) (p92_ok d F (h) w r5 hr6) ?_
    show ex _ 165 (108, [some (.ref (32)), some (.int (a0))], [.int (r5)], h) = _
    have hp := Option.some.inj hp
    subst hp
    exact e_ireturn f165_108 (Or.inl rfl)
  rw [if_neg hc4] at hp
  by_cases hc7 : (a0) = (4 : Int32)
  · rw [if_pos hc7] at hp
    refine e_sw (t := 109) f165_1 (by rw [hc7]; decide) (by rw [hc7]; decide) ?_
    refine e_aload_n f165_109 rfl ?_
    refine e_getI f165_110 (WF.t w 32 (by decide)) (by decide) ?_
    have hp := Option.some.inj hp
    subst hp
    exact e_ireturn f165_113 (Or.inl rfl)
  rw [if_neg hc7] at hp
  by_cases hc8 : (a0) = (5 : Int32)
  · rw [if_pos hc8] at hp
    refine e_sw (t := 114) f165_1 (by rw [hc8]; decide) (by rw [hc8]; decide) ?_
    refine e_aload_n f165_114 rfl ?_
    refine e_getR f165_115 (WF.t w 32 (by decide)) rfl (WF.r (q := 50) w 32 8 (by decide)) ?_
    refine e_getI f165_118 (WF.t w 50 (by decide)) (by decide) ?_
    have hp := Option.some.inj hp
    subst hp
    exact e_ireturn f165_121 (Or.inl rfl)
  rw [if_neg hc8] at hp
  by_cases hc9 : (a0) = (6 : Int32)
  · rw [if_pos hc9] at hp
    refine e_sw (t := 122) f165_1 (by rw [hc9]; decide) (by rw [hc9]; decide) ?_
    refine e_aload_n f165_122 rfl ?_
    refine e_getR f165_123 (WF.t w 32 (by decide)) rfl (WF.r (q := 50) w 32 8 (by decide)) ?_
    refine e_getI f165_126 (WF.t w 50 (by decide)) (by decide) ?_
    have hp := Option.some.inj hp
    subst hp
    exact e_ireturn f165_129 (Or.inl rfl)
  rw [if_neg hc9] at hp
  by_cases hc10 : (a0) = (7 : Int32)
  · rw [if_pos hc10] at hp
    refine e_sw (t := 130) f165_1 (by rw [hc10]; decide) (by rw [hc10]; decide) ?_
    refine e_aload_n f165_130 rfl ?_
    refine e_getR f165_131 (WF.t w 32 (by decide)) rfl (WF.r (q := 50) w 32 8 (by decide)) ?_
    refine e_getI f165_134 (WF.t w 50 (by decide)) (by decide) ?_
    have hp := Option.some.inj hp
    subst hp
    exact e_ireturn f165_137 (Or.inl rfl)
  rw [if_neg hc10] at hp
  by_cases hc11 : (a0) = (8 : Int32)
  · rw [if_pos hc11] at hp
    refine e_sw (t := 138) f165_1 (by rw [hc11]; decide) (by rw [hc11]; decide) ?_
    refine e_aload_n f165_138 rfl ?_
    refine e_getR f165_139 (WF.t w 32 (by decide)) rfl (WF.r (q := 50) w 32 8 (by decide)) ?_
    refine e_getI f165_142 (WF.t w 50 (by decide)) (by decide) ?_
    have hp := Option.some.inj hp
    subst hp
    exact e_ireturn f165_145 (Or.inl rfl)
  rw [if_neg hc11] at hp
  by_cases hc12 : (a0) = (9 : Int32)
  · rw [if_pos hc12] at hp
    refine e_sw (t := 146) f165_1 (by rw [hc12]; decide) (by rw [hc12]; decide) ?_
    refine e_aload_n f165_146 rfl ?_
    refine e_getR f165_147 (WF.t w 32 (by decide)) rfl (WF.r (q := 50) w 32 8 (by decide)) ?_
    refine e_getI f165_150 (WF.t w 50 (by decide)) (by decide) ?_
    have hp := Option.some.inj hp
    subst hp
    exact e_ireturn f165_153 (Or.inl rfl)
  rw [if_neg hc12] at hp
  by_cases hc13 : (a0) = (10 : Int32)
  · rw [if_pos hc13] at hp
    refine e_sw (t := 154) f165_1 (by rw [hc13]; decide) (by rw [hc13]; decide) ?_
    refine e_aload_n f165_154 rfl ?_
    refine e_getI f165_155 (WF.t w 32 (by decide)) (by decide) ?_
    have hp := Option.some.inj hp
    subst hp
    exact e_ireturn f165_158 (Or.inl rfl)
  rw [if_neg hc13] at hp
  by_cases hc14 : (a0) = (11 : Int32)
  · rw [if_pos hc14] at hp
    refine e_sw (t := 159) f165_1 (by rw [hc14]; decide) (by rw [hc14]; decide) ?_
    refine e_aload_n f165_159 rfl ?_
    refine e_getI f165_160 (WF.t w 32 (by decide)) (by decide) ?_
    have hp := Option.some.inj hp
    subst hp
    exact e_ireturn f165_163 (Or.inl rfl)
  rw [if_neg hc14] at hp
  by_cases hc15 : (a0) = (12 : Int32)
  · rw [if_pos hc15] at hp
    refine e_sw (t := 164) f165_1 (by rw [hc15]; decide) (by rw [hc15]; decide) ?_
    refine e_aload_n f165_164 rfl ?_
    obtain ⟨r16, hr17, hp⟩ := bind_some hp
    try dsimp only at hp
    refine e_callV (st := []) (o := 32) (as := []) f165_165 (by decide) rfl rfl (Nat.le_of_ble_eq_true rfl) (WF.t w 32 (by decide)) (Nat.le_of_ble_eq_true rfl) (p174_ok d F (h) w r16 hr17) ?_
    show ex _ 165 (168, [some (.ref (32)), some (.int (a0))], [.int (r16)], h) = _
    have hp := Option.some.inj hp
    subst hp
    exact e_ireturn f165_168 (Or.inl rfl)
  rw [if_neg hc15] at hp
  by_cases hc18 : (a0) = (13 : Int32)
  · rw [if_pos hc18] at hp
    refine e_sw (t := 169) f165_1 (by rw [hc18]; decide) (by rw [hc18]; decide) ?_
    refine e_aload_n f165_169 rfl ?_
    refine e_getR f165_170 (WF.t w 32 (by decide)) rfl (WF.r (q := 68) w 32 13 (by decide)) ?_
    refine e_getI f165_173 (WF.t w 68 (by decide)) (by decide) ?_
    have hp := Option.some.inj hp
    subst hp
    exact e_ireturn f165_176 (Or.inl rfl)
  rw [if_neg hc18] at hp
  by_cases hc19 : (a0) = (14 : Int32)
  · rw [if_pos hc19] at hp
    refine e_sw (t := 177) f165_1 (by rw [hc19]; decide) (by rw [hc19]; decide) ?_
    refine e_aload_n f165_177 rfl ?_
    refine e_getR f165_178 (WF.t w 32 (by decide)) rfl (WF.r (q := 57) w 32 9 (by decide)) ?_
    refine e_getI f165_181 (WF.t w 57 (by decide)) (by decide) ?_
    have hp := Option.some.inj hp
    subst hp
    exact e_ireturn f165_184 (Or.inl rfl)
  rw [if_neg hc19] at hp
  by_cases hc20 : (a0) = (15 : Int32)
  · rw [if_pos hc20] at hp
    refine e_sw (t := 185) f165_1 (by rw [hc20]; decide) (by rw [hc20]; decide) ?_
    refine e_aload_n f165_185 rfl ?_
    refine e_getR f165_186 (WF.t w 32 (by decide)) rfl (WF.r (q := 77) w 32 14 (by decide)) ?_
    refine e_getI f165_189 (WF.t w 77 (by decide)) (by decide) ?_
    have hp := Option.some.inj hp
    subst hp
    exact e_ireturn f165_192 (Or.inl rfl)
  rw [if_neg hc20] at hp
  have ho21 := sw_out (x := a0) 0 15 (fun j h1 h2 => by
    rcases (show j = 0 ∨ j = 1 ∨ j = 2 ∨ j = 3 ∨ j = 4 ∨ j = 5 ∨ j = 6 ∨ j = 7 ∨ j = 8 ∨ j = 9 ∨ j = 10 ∨ j = 11 ∨ j = 12 ∨ j = 13 ∨ j = 14 ∨ j = 15 by omega) with rfl | rfl | rfl | rfl | rfl | rfl | rfl | rfl | rfl | rfl | rfl | rfl | rfl | rfl | rfl | rfl
    · exact i32_ne hc1 (by decide)
    · exact i32_ne hc2 (by decide)
    · exact i32_ne hc3 (by decide)
    · exact i32_ne hc4 (by decide)
    · exact i32_ne hc7 (by decide)
    · exact i32_ne hc8 (by decide)
    · exact i32_ne hc9 (by decide)
    · exact i32_ne hc10 (by decide)
    · exact i32_ne hc11 (by decide)
    · exact i32_ne hc12 (by decide)
    · exact i32_ne hc13 (by decide)
    · exact i32_ne hc14 (by decide)
    · exact i32_ne hc15 (by decide)
    · exact i32_ne hc18 (by decide)
    · exact i32_ne hc19 (by decide)
    · exact i32_ne hc20 (by decide))
  refine e_sw (t := 193) f165_1 ⟨by rw [swTo, if_pos ho21]; decide, by decide⟩ (by rw [swTo, if_pos ho21]; decide) ?_
  refine e_iconst (v := -1) f165_193 (by decide) ?_
  have hp := Option.some.inj hp
  subst hp
  exact e_ireturn f165_194 (Or.inl rfl)
