theorem f108_0 : fetch 108 0 = some (.aload_n 0, 0, 0, 0) := rfl
theorem f108_1 : fetch 108 1 = some (.getfield 9, 10, 1, 2) := rfl
theorem f108_4 : fetch 108 4 = some (.iload_n 1, 0, 0, 0) := rfl
theorem f108_5 : fetch 108 5 = some (.iaload, 0, 0, 0) := rfl
theorem f108_6 : fetch 108 6 = some (.istore_n 3, 0, 0, 0) := rfl
theorem f108_7 : fetch 108 7 = some (.iload_n 3, 0, 0, 0) := rfl
theorem f108_8 : fetch 108 8 = some (.invokestatic 40, 105, 1, 1) := rfl
theorem f108_11 : fetch 108 11 = some (.ifCond .eq 10, 21, 0, 0) := rfl
theorem f108_14 : fetch 108 14 = some (.aload_n 0, 0, 0, 0) := rfl
theorem f108_15 : fetch 108 15 = some (.iload_n 1, 0, 0, 0) := rfl
theorem f108_16 : fetch 108 16 = some (.iload_n 2, 0, 0, 0) := rfl
theorem f108_17 : fetch 108 17 = some (.invokevirtual 47, 109, 2, 0) := rfl
theorem f108_20 : fetch 108 20 = some (.ireturn, 0, 0, 0) := rfl
theorem f108_21 : fetch 108 21 = some (.iload_n 3, 0, 0, 0) := rfl
theorem f108_22 : fetch 108 22 = some (.invokestatic 44, 106, 1, 1) := rfl
theorem f108_25 : fetch 108 25 = some (.ifCond .eq 30, 55, 0, 0) := rfl
theorem f108_28 : fetch 108 28 = some (.aload_n 0, 0, 0, 0) := rfl
theorem f108_29 : fetch 108 29 = some (.iload_n 1, 0, 0, 0) := rfl
theorem f108_30 : fetch 108 30 = some (.iload_n 2, 0, 0, 0) := rfl
theorem f108_31 : fetch 108 31 = some (.invokevirtual 50, 110, 2, 0) := rfl
theorem f108_34 : fetch 108 34 = some (.istore 4, 0, 0, 0) := rfl
theorem f108_36 : fetch 108 36 = some (.iload 4, 0, 0, 0) := rfl
theorem f108_38 : fetch 108 38 = some (.iconst (-1), 0, 0, 0) := rfl
theorem f108_39 : fetch 108 39 = some (.if_icmp .ne 9, 48, 0, 0) := rfl
theorem f108_42 : fetch 108 42 = some (.sipush 10001, 0, 0, 0) := rfl
theorem f108_45 : fetch 108 45 = some (.goto 9, 54, 0, 0) := rfl
theorem f108_48 : fetch 108 48 = some (.sipush 10010, 0, 0, 0) := rfl
theorem f108_51 : fetch 108 51 = some (.iload 4, 0, 0, 0) := rfl
theorem f108_53 : fetch 108 53 = some (.iadd, 0, 0, 0) := rfl
theorem f108_54 : fetch 108 54 = some (.ireturn, 0, 0, 0) := rfl
theorem f108_55 : fetch 108 55 = some (.iload_n 3, 0, 0, 0) := rfl
theorem f108_56 : fetch 108 56 = some (.iload_n 2, 0, 0, 0) := rfl
theorem f108_57 : fetch 108 57 = some (.iload_n 1, 0, 0, 0) := rfl
theorem f108_58 : fetch 108 58 = some (.isub, 0, 0, 0) := rfl
theorem f108_59 : fetch 108 59 = some (.iconst 1, 0, 0, 0) := rfl
theorem f108_60 : fetch 108 60 = some (.if_icmp .le 7, 67, 0, 0) := rfl
theorem f108_63 : fetch 108 63 = some (.iconst 1, 0, 0, 0) := rfl
theorem f108_64 : fetch 108 64 = some (.goto 4, 68, 0, 0) := rfl
theorem f108_67 : fetch 108 67 = some (.iconst 0, 0, 0, 0) := rfl
theorem f108_68 : fetch 108 68 = some (.invokestatic 53, 112, 2, 1) := rfl
theorem f108_71 : fetch 108 71 = some (.ireturn, 0, 0, 0) := rfl
set_option maxRecDepth 100000 in
set_option maxHeartbeats 4000000 in
theorem p108_j68_ok (d : Nat) (F : Nat) (a0 : Int32) (a1 : Int32) (h : HS) (w : WF h)  (s0 : Int32) (s1 : Int32) (r : Int32) (hp : p108_j68 F a0 a1 h s0 s1 = some r) : ex (d + 2) 108 (68, [none, none, none, none, none], [.int (s0), .int (s1)], h) = some (some (.int (r)), h) := by
  unfold p108_j68 at hp
  obtain ⟨r14, hr15, hp⟩ := bind_some hp
  try dsimp only at hp
  refine e_callS (st := []) (as := [.int (s1), .int (s0)]) f108_68 (by decide) rfl rfl (Nat.le_of_ble_eq_true rfl) (Nat.le_of_ble_eq_true rfl) (p112_ok (d + 1) (h) w (s1) (s0) r14 hr15) ?_
  show ex _ 108 (71, [none, none, none, none, none], [.int (r14)], h) = _
  have hp := Option.some.inj hp
  subst hp
  exact e_ireturn f108_71 (Or.inl rfl)
set_option maxRecDepth 100000 in
set_option maxHeartbeats 4000000 in
theorem p108_ok (d : Nat) (F : Nat) (h : HS) (w : WF h) (a0 : Int32) (a1 : Int32) (r : Int32) (hp : p108 F h a0 a1 = some r) : ex (d + 2) 108 (ent 108 [.ref (57), .int (a0), .int (a1)] h) = some (some (.int (r)), h) := by
  rw [show ent 108 [.ref (57), .int (a0), .int (a1)] h = (0, [some (.ref (57)), some (.int (a0)), some (.int (a1)), none, none], [], h) from by  rfl]
  refine ex_weak (ls := [some (.ref (57)), some (.int (a0)), some (.int (a1)), none, none]) (le2_ok ⟨Or.inr rfl, Or.inr rfl, Or.inr rfl, Or.inr rfl, Or.inr rfl, trivial⟩) ?_
  unfold p108 at hp
  refine e_aload_n f108_0 rfl ?_
  refine e_getR f108_1 (WF.t w 57 (by decide)) rfl (WF.r (q := 58) w 57 1 (by decide)) ?_
  refine e_iload_n f108_4 rfl ?_
  by_cases hg1 : (a0) < (0 : Int32) ∨ 400 ≤ (a0).toNatClampNeg
  · rw [if_pos hg1] at hp; cases hp
  rw [if_neg hg1] at hp
  refine e_iaload f108_5 (Or.inl (WF.t w 58 (by decide))) (WF.n w 58 (by decide)) hg1 ?_
  refine e_istore_n (ls2 := [some (.ref (57)), some (.int (a0)), some (.int (a1)), some (.int (hI (h) (58) (a0).toNatClampNeg)), none]) f108_6 (Nat.le_of_ble_eq_true rfl) rfl ?_
  refine e_iload_n f108_7 rfl ?_
  obtain ⟨r2, hr3, hp⟩ := bind_some hp
  try dsimp only at hp
  refine e_callS (st := []) (as := [.int (hI (h) (58) (a0).toNatClampNeg)]) f108_8 (by decide) rfl rfl (Nat.le_of_ble_eq_true rfl) (Nat.le_of_ble_eq_true rfl) (p105_ok (d + 1) (h) w (hI (h) (58) (a0).toNatClampNeg) r2 hr3) ?_
  show ex _ 108 (11, [some (.ref (57)), some (.int (a0)), some (.int (a1)), some (.int (hI (h) (58) (a0).toNatClampNeg)), none], [.int (r2)], h) = _
  by_cases hc4 : (r2) = (0 : Int32)
  · rw [if_pos hc4] at hp
    refine e_if_eq_t f108_11 hc4 ?_
    refine e_iload_n f108_21 rfl ?_
    obtain ⟨r5, hr6, hp⟩ := bind_some hp
    try dsimp only at hp
    refine e_callS (st := []) (as := [.int (hI (h) (58) (a0).toNatClampNeg)]) f108_22 (by decide) rfl rfl (Nat.le_of_ble_eq_true rfl) (Nat.le_of_ble_eq_true rfl) (p106_ok (d + 1) (h) w (hI (h) (58) (a0).toNatClampNeg) r5 hr6) ?_
    show ex _ 108 (25, [some (.ref (57)), some (.int (a0)), some (.int (a1)), some (.int (hI (h) (58) (a0).toNatClampNeg)), none], [.int (r5)], h) = _
    by_cases hc7 : (r5) = (0 : Int32)
    · rw [if_pos hc7] at hp
      refine e_if_eq_t f108_25 hc7 ?_
      refine e_iload_n f108_55 rfl ?_
      refine e_iload_n f108_56 rfl ?_
      refine e_iload_n f108_57 rfl ?_
      refine e_isub f108_58 ?_
      refine e_iconst (v := 1) f108_59 (by decide) ?_
      by_cases hc8 : (1) < (((a1) - (a0)) : Int32)
      · rw [if_pos hc8] at hp
        refine e_icmp_le_f f108_60 hc8 ?_
        refine e_iconst (v := 1) f108_63 (by decide) ?_
        refine e_goto f108_64 ?_
        refine ex_weak (ls := [none, none, none, none, none]) (le2_ok ⟨Or.inl rfl, Or.inl rfl, Or.inl rfl, Or.inl rfl, Or.inl rfl, trivial⟩) ?_
        exact p108_j68_ok d F a0 a1 (h) (w) (1) (hI (h) (58) (a0).toNatClampNeg) _ hp
      · rw [if_neg hc8] at hp
        refine e_icmp_le_t f108_60 hc8 ?_
        refine e_iconst (v := 0) f108_67 (by decide) ?_
        refine ex_weak (ls := [none, none, none, none, none]) (le2_ok ⟨Or.inl rfl, Or.inl rfl, Or.inl rfl, Or.inl rfl, Or.inl rfl, trivial⟩) ?_
        exact p108_j68_ok d F a0 a1 (h) (w) (0) (hI (h) (58) (a0).toNatClampNeg) _ hp
    · rw [if_neg hc7] at hp
      refine e_if_eq_f f108_25 hc7 ?_
      refine e_aload_n f108_28 rfl ?_
      refine e_iload_n f108_29 rfl ?_
      refine e_iload_n f108_30 rfl ?_
      obtain ⟨r9, hr10, hp⟩ := bind_some hp
      try dsimp only at hp
      refine e_callV (st := []) (o := 57) (as := [.int (a0), .int (a1)]) f108_31 (by decide) rfl rfl (Nat.le_of_ble_eq_true rfl) (WF.t w 57 (by decide)) (Nat.le_of_ble_eq_true rfl) (p110_ok d F (h) w (a0) (a1) r9 hr10) ?_
      show ex _ 108 (34, [some (.ref (57)), some (.int (a0)), some (.int (a1)), some (.int (hI (h) (58) (a0).toNatClampNeg)), none], [.int (r9)], h) = _
      refine e_istore (ls2 := [some (.ref (57)), some (.int (a0)), some (.int (a1)), some (.int (hI (h) (58) (a0).toNatClampNeg)), some (.int (r9))]) f108_34 (Nat.le_of_ble_eq_true rfl) rfl ?_
      refine e_iload f108_36 rfl ?_
      refine e_iconst (v := -1) f108_38 (by decide) ?_
      by_cases hc11 : (r9) = (((-1)) : Int32)
      · rw [if_pos hc11] at hp
        refine e_icmp_ne_f f108_39 hc11 ?_
        refine e_sipush (v := 10001) f108_42 (by decide) ?_
        refine e_goto f108_45 ?_
        have hp := Option.some.inj hp
        subst hp
        exact e_ireturn f108_54 (Or.inl rfl)
      · rw [if_neg hc11] at hp
        refine e_icmp_ne_t f108_39 hc11 ?_
        refine e_sipush (v := 10010) f108_48 (by decide) ?_
        refine e_iload f108_51 rfl ?_
        refine e_iadd f108_53 ?_
        have hp := Option.some.inj hp
        subst hp
        exact e_ireturn f108_54 (Or.inl rfl)
  · rw [if_neg hc4] at hp
    refine e_if_eq_f f108_11 hc4 ?_
    refine e_aload_n f108_14 rfl ?_
    refine e_iload_n f108_15 rfl ?_
    refine e_iload_n f108_16 rfl ?_
    obtain ⟨r12, hr13, hp⟩ := bind_some hp
    try dsimp only at hp
    refine e_callV (st := []) (o := 57) (as := [.int (a0), .int (a1)]) f108_17 (by decide) rfl rfl (Nat.le_of_ble_eq_true rfl) (WF.t w 57 (by decide)) (Nat.le_of_ble_eq_true rfl) (p109_ok (d + 1) F (h) w (a0) (a1) r12 hr13) ?_
    show ex _ 108 (20, [some (.ref (57)), some (.int (a0)), some (.int (a1)), some (.int (hI (h) (58) (a0).toNatClampNeg)), none], [.int (r12)], h) = _
    have hp := Option.some.inj hp
    subst hp
    exact e_ireturn f108_20 (Or.inl rfl)
theorem f103_0 : fetch 103 0 = some (.aload_n 0, 0, 0, 0) := rfl
theorem f103_1 : fetch 103 1 = some (.iconst 0, 0, 0, 0) := rfl
theorem f103_2 : fetch 103 2 = some (.putfield 25, 10, 2, 0) := rfl
theorem f103_5 : fetch 103 5 = some (.iconst 0, 0, 0, 0) := rfl
theorem f103_6 : fetch 103 6 = some (.istore_n 1, 0, 0, 0) := rfl
theorem f103_7 : fetch 103 7 = some (.iconst 0, 0, 0, 0) := rfl
theorem f103_8 : fetch 103 8 = some (.istore_n 2, 0, 0, 0) := rfl
theorem f103_9 : fetch 103 9 = some (.iload_n 2, 0, 0, 0) := rfl
theorem f103_10 : fetch 103 10 = some (.sipush 400, 0, 0, 0) := rfl
theorem f103_13 : fetch 103 13 = some (.if_icmp .ge 53, 66, 0, 0) := rfl
theorem f103_16 : fetch 103 16 = some (.iload_n 1, 0, 0, 0) := rfl
theorem f103_17 : fetch 103 17 = some (.aload_n 0, 0, 0, 0) := rfl
theorem f103_18 : fetch 103 18 = some (.getfield 21, 10, 0, 0) := rfl
theorem f103_21 : fetch 103 21 = some (.if_icmp .ge 45, 66, 0, 0) := rfl
theorem f103_24 : fetch 103 24 = some (.aload_n 0, 0, 0, 0) := rfl
theorem f103_25 : fetch 103 25 = some (.getfield 9, 10, 1, 2) := rfl
theorem f103_28 : fetch 103 28 = some (.iload_n 1, 0, 0, 0) := rfl
theorem f103_29 : fetch 103 29 = some (.iaload, 0, 0, 0) := rfl
theorem f103_30 : fetch 103 30 = some (.bipush 32, 0, 0, 0) := rfl
theorem f103_32 : fetch 103 32 = some (.if_icmp .ne 9, 41, 0, 0) := rfl
theorem f103_35 : fetch 103 35 = some (.iinc 1 1, 0, 0, 0) := rfl
theorem f103_38 : fetch 103 38 = some (.goto 22, 60, 0, 0) := rfl
theorem f103_41 : fetch 103 41 = some (.aload_n 0, 0, 0, 0) := rfl
theorem f103_42 : fetch 103 42 = some (.iload_n 1, 0, 0, 0) := rfl
theorem f103_43 : fetch 103 43 = some (.invokevirtual 28, 107, 1, 0) := rfl
theorem f103_46 : fetch 103 46 = some (.istore_n 3, 0, 0, 0) := rfl
theorem f103_47 : fetch 103 47 = some (.aload_n 0, 0, 0, 0) := rfl
theorem f103_48 : fetch 103 48 = some (.aload_n 0, 0, 0, 0) := rfl
theorem f103_49 : fetch 103 49 = some (.iload_n 1, 0, 0, 0) := rfl
theorem f103_50 : fetch 103 50 = some (.iload_n 3, 0, 0, 0) := rfl
theorem f103_51 : fetch 103 51 = some (.invokevirtual 32, 108, 2, 0) := rfl
theorem f103_54 : fetch 103 54 = some (.iload_n 1, 0, 0, 0) := rfl
theorem f103_55 : fetch 103 55 = some (.invokevirtual 36, 104, 2, 0) := rfl
theorem f103_58 : fetch 103 58 = some (.iload_n 3, 0, 0, 0) := rfl
theorem f103_59 : fetch 103 59 = some (.istore_n 1, 0, 0, 0) := rfl
theorem f103_60 : fetch 103 60 = some (.iinc 2 1, 0, 0, 0) := rfl
theorem f103_63 : fetch 103 63 = some (.goto (-54), 9, 0, 0) := rfl
theorem f103_66 : fetch 103 66 = some (.aload_n 0, 0, 0, 0) := rfl
theorem f103_67 : fetch 103 67 = some (.sipush 10002, 0, 0, 0) := rfl
theorem f103_70 : fetch 103 70 = some (.aload_n 0, 0, 0, 0) := rfl
theorem f103_71 : fetch 103 71 = some (.getfield 21, 10, 0, 0) := rfl
theorem f103_74 : fetch 103 74 = some (.invokevirtual 36, 104, 2, 0) := rfl
theorem f103_77 : fetch 103 77 = some (.return_, 0, 0, 0) := rfl
set_option maxRecDepth 100000 in
set_option maxHeartbeats 4000000 in
theorem p103_j60_ok (d : Nat) (F : Nat) (K9 : HS → Int32 → Int32 → Option (HS)) (hK9 : ∀ (h : HS) (w : WF h) (u1 : Int32) (u2 : Int32) (r : HS), K9 h u1 u2 = some r → ex (d + 3) 103 (9, [some (.ref (57)), some (.int (u1)), some (.int (u2)), none], [], h) = some (none, r)) (h : HS) (w : WF h) (v1 : Int32) (v2 : Int32) (r : HS) (hp : p103_j60 F K9 h v1 v2 = some r) : ex (d + 3) 103 (60, [some (.ref (57)), some (.int (v1)), some (.int (v2)), none], [], h) = some (none, r) := by
  unfold p103_j60 at hp
  refine e_iinc (ls2 := [some (.ref (57)), some (.int (v1)), some (.int ((v2) + 1)), none]) f103_60 (by decide) rfl rfl ?_
  refine e_goto f103_63 ?_
  refine ex_weak (ls := [some (.ref (57)), some (.int (v1)), some (.int ((v2) + 1)), none]) (le2_ok ⟨Or.inr rfl, Or.inr rfl, Or.inr rfl, Or.inl rfl, trivial⟩) ?_
  exact hK9 (h) (w) (v1) ((v2) + 1) _ hp
set_option maxRecDepth 100000 in
set_option maxHeartbeats 4000000 in
theorem p103_j60_w (F : Nat) (K9 : HS → Int32 → Int32 → Option (HS)) (hK9 : ∀ (h : HS) (w : WF h) (u1 : Int32) (u2 : Int32) (r : HS), K9 h u1 u2 = some r → WF r) (h : HS) (w : WF h) (v1 : Int32) (v2 : Int32) (r : HS) (hp : p103_j60 F K9 h v1 v2 = some r) : WF r := by
  unfold p103_j60 at hp
  exact hK9 (h) (w) (v1) ((v2) + 1) _ hp
set_option maxRecDepth 100000 in
set_option maxHeartbeats 4000000 in
theorem p103_j66_ok (d : Nat) (F : Nat) (h : HS) (w : WF h) (r : HS) (hp : p103_j66 F h = some r) : ex (d + 3) 103 (66, [some (.ref (57)), none, none, none], [], h) = some (none, r) := by
  unfold p103_j66 at hp
  refine e_aload_n f103_66 rfl ?_
  refine e_sipush (v := 10002) f103_67 (by decide) ?_
  refine e_aload_n f103_70 rfl ?_
  refine e_getI f103_71 (WF.t w 57 (by decide)) (by decide) ?_
  obtain ⟨r11, hr12, hp⟩ := bind_some hp
  try dsimp only at hp
  refine e_callV (st := []) (o := 57) (as := [.int (10002), .int (hI (h) (57) 0)]) f103_74 (by decide) rfl rfl (Nat.le_of_ble_eq_true rfl) (WF.t w 57 (by decide)) (Nat.le_of_ble_eq_true rfl) (p104_ok (d + 2) (h) w (10002) (hI (h) (57) 0) r11 hr12) ?_
  show ex _ 103 (77, [some (.ref (57)), none, none, none], [], r11) = _
  have hp := Option.some.inj hp
  subst hp
  exact e_return f103_77
set_option maxRecDepth 100000 in
set_option maxHeartbeats 4000000 in
theorem p103_j66_w (F : Nat) (h : HS) (w : WF h) (r : HS) (hp : p103_j66 F h = some r) : WF r := by
  unfold p103_j66 at hp
  obtain ⟨r11, hr12, hp⟩ := bind_some hp
  try dsimp only at hp
  have hp := Option.some.inj hp
  subst hp
  exact ((p104_w (h) w (10002) (hI (h) (57) 0)  r11 hr12))
set_option maxRecDepth 100000 in
set_option maxHeartbeats 4000000 in
theorem p103_L9_ok (d : Nat) (F : Nat) : ∀ (n : Nat) (h : HS) (w : WF h) (v1 : Int32) (v2 : Int32) (r : HS), p103_L9 F n h v1 v2 = some r → ex (d + 3) 103 (9, [some (.ref (57)), some (.int (v1)), some (.int (v2)), none], [], h) = some (none, r) := by
  intro n
  induction n with
  | zero => intro h w v1 v2 r hp; cases hp
  | succ n ih =>
    intro h w v1 v2 r hp
    unfold p103_L9 at hp
    refine e_iload_n f103_9 rfl ?_
    refine e_sipush (v := 400) f103_10 (by decide) ?_
    by_cases hc1 : (v2) < ((400) : Int32)
    · rw [if_pos hc1] at hp
      refine e_icmp_ge_f f103_13 hc1 ?_
      refine e_iload_n f103_16 rfl ?_
      refine e_aload_n f103_17 rfl ?_
      refine e_getI f103_18 (WF.t w 57 (by decide)) (by decide) ?_
      by_cases hc2 : (v1) < ((hI (h) (57) 0) : Int32)
      · rw [if_pos hc2] at hp
        refine e_icmp_ge_f f103_21 hc2 ?_
        refine e_aload_n f103_24 rfl ?_
        refine e_getR f103_25 (WF.t w 57 (by decide)) rfl (WF.r (q := 58) w 57 1 (by decide)) ?_
        refine e_iload_n f103_28 rfl ?_
        by_cases hg3 : (v1) < (0 : Int32) ∨ 400 ≤ (v1).toNatClampNeg
        · rw [if_pos hg3] at hp; cases hp
        rw [if_neg hg3] at hp
        refine e_iaload f103_29 (Or.inl (WF.t w 58 (by decide))) (WF.n w 58 (by decide)) hg3 ?_
        refine e_bipush (v := 32) f103_30 (by decide) ?_
        by_cases hc4 : (hI (h) (58) (v1).toNatClampNeg) = ((32) : Int32)
        · rw [if_pos hc4] at hp
          refine e_icmp_ne_f f103_32 hc4 ?_
          refine e_iinc (ls2 := [some (.ref (57)), some (.int ((v1) + 1)), some (.int (v2)), none]) f103_35 (by decide) rfl rfl ?_
          refine e_goto f103_38 ?_
          refine ex_weak (ls := [some (.ref (57)), some (.int ((v1) + 1)), some (.int (v2)), none]) (le2_ok ⟨Or.inr rfl, Or.inr rfl, Or.inr rfl, Or.inl rfl, trivial⟩) ?_
          exact p103_j60_ok d F ((p103_L9 F n)) (ih) (h) (w) ((v1) + 1) (v2) _ hp
        · rw [if_neg hc4] at hp
          refine e_icmp_ne_t f103_32 hc4 ?_
          refine e_aload_n f103_41 rfl ?_
          refine e_iload_n f103_42 rfl ?_
          obtain ⟨r5, hr6, hp⟩ := bind_some hp
          try dsimp only at hp
          refine e_callV (st := []) (o := 57) (as := [.int (v1)]) f103_43 (by decide) rfl rfl (Nat.le_of_ble_eq_true rfl) (WF.t w 57 (by decide)) (Nat.le_of_ble_eq_true rfl) (p107_ok (d + 1) F (h) w (v1) r5 hr6) ?_
          show ex _ 103 (46, [some (.ref (57)), some (.int (v1)), some (.int (v2)), none], [.int (r5)], h) = _
          refine e_istore_n (ls2 := [some (.ref (57)), some (.int (v1)), some (.int (v2)), some (.int (r5))]) f103_46 (Nat.le_of_ble_eq_true rfl) rfl ?_
          refine e_aload_n f103_47 rfl ?_
          refine e_aload_n f103_48 rfl ?_
          refine e_iload_n f103_49 rfl ?_
          refine e_iload_n f103_50 rfl ?_
          obtain ⟨r7, hr8, hp⟩ := bind_some hp
          try dsimp only at hp
          refine e_callV (st := [.ref (57)]) (o := 57) (as := [.int (v1), .int (r5)]) f103_51 (by decide) rfl rfl (Nat.le_of_ble_eq_true rfl) (WF.t w 57 (by decide)) (Nat.le_of_ble_eq_true rfl) (p108_ok d F (h) w (v1) (r5) r7 hr8) ?_
          show ex _ 103 (54, [some (.ref (57)), some (.int (v1)), some (.int (v2)), some (.int (r5))], [.int (r7), .ref (57)], h) = _
          refine e_iload_n f103_54 rfl ?_
          obtain ⟨r9, hr10, hp⟩ := bind_some hp
          try dsimp only at hp
          refine e_callV (st := []) (o := 57) (as := [.int (r7), .int (v1)]) f103_55 (by decide) rfl rfl (Nat.le_of_ble_eq_true rfl) (WF.t w 57 (by decide)) (Nat.le_of_ble_eq_true rfl) (p104_ok (d + 2) (h) w (r7) (v1) r9 hr10) ?_
          show ex _ 103 (58, [some (.ref (57)), some (.int (v1)), some (.int (v2)), some (.int (r5))], [], r9) = _
          refine e_iload_n f103_58 rfl ?_
          refine e_istore_n (ls2 := [some (.ref (57)), some (.int (r5)), some (.int (v2)), some (.int (r5))]) f103_59 (Nat.le_of_ble_eq_true rfl) rfl ?_
          refine ex_weak (ls := [some (.ref (57)), some (.int (r5)), some (.int (v2)), none]) (le2_ok ⟨Or.inr rfl, Or.inr rfl, Or.inr rfl, Or.inl rfl, trivial⟩) ?_
          exact p103_j60_ok d F ((p103_L9 F n)) (ih) (r9) ((p104_w (h) w (r7) (v1)  r9 hr10)) (r5) (v2) _ hp
      · rw [if_neg hc2] at hp
        refine e_icmp_ge_t f103_21 hc2 ?_
        refine ex_weak (ls := [some (.ref (57)), none, none, none]) (le2_ok ⟨Or.inr rfl, Or.inl rfl, Or.inl rfl, Or.inl rfl, trivial⟩) ?_
        exact p103_j66_ok d F (h) (w)  _ hp
    · rw [if_neg hc1] at hp
      refine e_icmp_ge_t f103_13 hc1 ?_
      refine ex_weak (ls := [some (.ref (57)), none, none, none]) (le2_ok ⟨Or.inr rfl, Or.inl rfl, Or.inl rfl, Or.inl rfl, trivial⟩) ?_
      exact p103_j66_ok d F (h) (w)  _ hp
set_option maxRecDepth 100000 in
set_option maxHeartbeats 4000000 in
theorem p103_L9_w (F : Nat) : ∀ (n : Nat) (h : HS) (w : WF h) (v1 : Int32) (v2 : Int32) (r : HS), p103_L9 F n h v1 v2 = some r → WF r := by
  intro n
  induction n with
  | zero => intro h w v1 v2 r hp; cases hp
  | succ n ih =>
    intro h w v1 v2 r hp
    unfold p103_L9 at hp
    by_cases hc1 : (v2) < ((400) : Int32)
    · rw [if_pos hc1] at hp
      by_cases hc2 : (v1) < ((hI (h) (57) 0) : Int32)
      · rw [if_pos hc2] at hp
        by_cases hg3 : (v1) < (0 : Int32) ∨ 400 ≤ (v1).toNatClampNeg
        · rw [if_pos hg3] at hp; cases hp
        rw [if_neg hg3] at hp
        by_cases hc4 : (hI (h) (58) (v1).toNatClampNeg) = ((32) : Int32)
        · rw [if_pos hc4] at hp
          exact p103_j60_w F ((p103_L9 F n)) (ih) (h) (w) ((v1) + 1) (v2) _ hp
        · rw [if_neg hc4] at hp
          obtain ⟨r5, hr6, hp⟩ := bind_some hp
          try dsimp only at hp
          obtain ⟨r7, hr8, hp⟩ := bind_some hp
          try dsimp only at hp
          obtain ⟨r9, hr10, hp⟩ := bind_some hp
          try dsimp only at hp
          exact p103_j60_w F ((p103_L9 F n)) (ih) (r9) ((p104_w (h) w (r7) (v1)  r9 hr10)) (r5) (v2) _ hp
      · rw [if_neg hc2] at hp
        exact p103_j66_w F (h) (w)  _ hp
    · rw [if_neg hc1] at hp
      exact p103_j66_w F (h) (w)  _ hp
set_option maxRecDepth 100000 in
set_option maxHeartbeats 4000000 in
theorem p103_ok (d : Nat) (F : Nat) (h : HS) (w : WF h) (r : HS) (hp : p103 F h = some r) : ex (d + 3) 103 (ent 103 [.ref (57)] h) = some (none, r) := by
  rw [show ent 103 [.ref (57)] h = (0, [some (.ref (57)), none, none, none], [], h) from by  rfl]
  refine ex_weak (ls := [some (.ref (57)), none, none, none]) (le2_ok ⟨Or.inr rfl, Or.inr rfl, Or.inr rfl, Or.inr rfl, trivial⟩) ?_
  unfold p103 at hp
  refine e_aload_n f103_0 rfl ?_
  refine e_iconst (v := 0) f103_1 (by decide) ?_
  refine e_putI f103_2 (WF.t w 57 (by decide)) rfl ?_
  refine e_iconst (v := 0) f103_5 (by decide) ?_
  refine e_istore_n (ls2 := [some (.ref (57)), some (.int (0)), none, none]) f103_6 (Nat.le_of_ble_eq_true rfl) rfl ?_
  refine e_iconst (v := 0) f103_7 (by decide) ?_
  refine e_istore_n (ls2 := [some (.ref (57)), some (.int (0)), some (.int (0)), none]) f103_8 (Nat.le_of_ble_eq_true rfl) rfl ?_
  refine ex_weak (ls := [some (.ref (57)), some (.int (0)), some (.int (0)), none]) (le2_ok ⟨Or.inr rfl, Or.inr rfl, Or.inr rfl, Or.inl rfl, trivial⟩) ?_
  exact p103_L9_ok d F F (hsI (h) (57) 2 (0)) (w) (0) (0) _ hp
set_option maxRecDepth 100000 in
set_option maxHeartbeats 4000000 in
theorem p103_w (F : Nat) (h : HS) (w : WF h) (r : HS) (hp : p103 F h = some r) : WF r := by
  unfold p103 at hp
  exact p103_L9_w F F (hsI (h) (57) 2 (0)) (w) (0) (0) _ hp
theorem f114_0 : fetch 114 0 = some (.iload_n 1, 0, 0, 0) := rfl
theorem f114_1 : fetch 114 1 = some (.aload_n 0, 0, 0, 0) := rfl
theorem f114_2 : fetch 114 2 = some (.getfield 88, 11, 0, 0) := rfl
theorem f114_5 : fetch 114 5 = some (.sipush 3999, 0, 0, 0) := rfl
theorem f114_8 : fetch 114 8 = some (.invokestatic 91, 166, 3, 1) := rfl
theorem f114_11 : fetch 114 11 = some (.ifCond .ne 5, 16, 0, 0) := rfl
theorem f114_14 : fetch 114 14 = some (.iconst 0, 0, 0, 0) := rfl
theorem f114_15 : fetch 114 15 = some (.ireturn, 0, 0, 1) := rfl
theorem f114_16 : fetch 114 16 = some (.aload_n 0, 0, 0, 0) := rfl
theorem f114_17 : fetch 114 17 = some (.iload_n 1, 0, 0, 0) := rfl
theorem f114_18 : fetch 114 18 = some (.putfield 88, 11, 0, 0) := rfl
theorem f114_21 : fetch 114 21 = some (.iconst 1, 0, 0, 0) := rfl
theorem f114_22 : fetch 114 22 = some (.ireturn, 0, 0, 1) := rfl
set_option maxRecDepth 100000 in
set_option maxHeartbeats 4000000 in
theorem p114_ok (d : Nat) (h : HS) (w : WF h) (a0 : Int32) (r : Int32 × HS) (hp : p114 h a0 = some r) : ex (d + 1) 114 (ent 114 [.ref (32), .int (a0)] h) = some (some (.int (r.1)), r.2) := by
  rw [show ent 114 [.ref (32), .int (a0)] h = (0, [some (.ref (32)), some (.int (a0))], [], h) from by  rfl]
  refine ex_weak (ls := [some (.ref (32)), some (.int (a0))]) (le2_ok ⟨Or.inr rfl, Or.inr rfl, trivial⟩) ?_
  unfold p114 at hp
  refine e_iload_n f114_0 rfl ?_
  refine e_aload_n f114_1 rfl ?_
  refine e_getI f114_2 (WF.t w 32 (by decide)) (by decide) ?_
  refine e_sipush (v := 3999) f114_5 (by decide) ?_
  obtain ⟨r1, hr2, hp⟩ := bind_some hp
  try dsimp only at hp
  refine e_callS (st := []) (as := [.int (a0), .int (hI (h) (32) 0), .int (3999)]) f114_8 (by decide) rfl rfl (Nat.le_of_ble_eq_true rfl) (Nat.le_of_ble_eq_true rfl) (p166_ok d (h) w (a0) (hI (h) (32) 0) (3999) r1 hr2) ?_
  show ex _ 114 (11, [some (.ref (32)), some (.int (a0))], [.int (r1)], h) = _
  by_cases hc3 : (r1) = (0 : Int32)
  · rw [if_pos hc3] at hp
    refine e_if_ne_f f114_11 hc3 ?_
    refine e_iconst (v := 0) f114_14 (by decide) ?_
    have hp := Option.some.inj hp
    subst hp
    exact e_ireturn f114_15 (by decide)
  · rw [if_neg hc3] at hp
    refine e_if_ne_t f114_11 hc3 ?_
    refine e_aload_n f114_16 rfl ?_
    refine e_iload_n f114_17 rfl ?_
    refine e_putI f114_18 (WF.t w 32 (by decide)) rfl ?_
    refine e_iconst (v := 1) f114_21 (by decide) ?_
    have hp := Option.some.inj hp
    subst hp
    exact e_ireturn f114_22 (by decide)
set_option maxRecDepth 100000 in
set_option maxHeartbeats 4000000 in
theorem p114_w (h : HS) (w : WF h) (a0 : Int32) (r : Int32 × HS) (hp : p114 h a0 = some r) : WF r.2 := by
  unfold p114 at hp
  obtain ⟨r1, hr2, hp⟩ := bind_some hp
  try dsimp only at hp
  by_cases hc3 : (r1) = (0 : Int32)
  · rw [if_pos hc3] at hp
    have hp := Option.some.inj hp
    subst hp
    exact (w)
  · rw [if_neg hc3] at hp
    have hp := Option.some.inj hp
    subst hp
    exact (w)
theorem f115_0 : fetch 115 0 = some (.aload_n 0, 0, 0, 0) := rfl
theorem f115_1 : fetch 115 1 = some (.getfield 16, 11, 5, 2) := rfl
theorem f115_4 : fetch 115 4 = some (.iload_n 1, 0, 0, 0) := rfl
theorem f115_5 : fetch 115 5 = some (.invokevirtual 95, 84, 1, 0) := rfl
theorem f115_8 : fetch 115 8 = some (.ireturn, 0, 0, 0) := rfl
set_option maxRecDepth 100000 in
set_option maxHeartbeats 4000000 in
theorem p115_ok (d : Nat) (h : HS) (w : WF h) (a0 : Int32) (r : Int32 × HS) (hp : p115 h a0 = some r) : ex (d + 2) 115 (ent 115 [.ref (32), .int (a0)] h) = some (some (.int (r.1)), r.2) := by
  rw [show ent 115 [.ref (32), .int (a0)] h = (0, [some (.ref (32)), some (.int (a0))], [], h) from by  rfl]
  refine ex_weak (ls := [some (.ref (32)), some (.int (a0))]) (le2_ok ⟨Or.inr rfl, Or.inr rfl, trivial⟩) ?_
  unfold p115 at hp
  refine e_aload_n f115_0 rfl ?_
  refine e_getR f115_1 (WF.t w 32 (by decide)) rfl (WF.r (q := 33) w 32 5 (by decide)) ?_
  refine e_iload_n f115_4 rfl ?_
  obtain ⟨r1, hr2, hp⟩ := bind_some hp
  try dsimp only at hp
  refine e_callV (st := []) (o := 33) (as := [.int (a0)]) f115_5 (by decide) rfl rfl (Nat.le_of_ble_eq_true rfl) (WF.t w 33 (by decide)) (Nat.le_of_ble_eq_true rfl) (p84_ok d (h) w (a0) r1 hr2) ?_
  show ex _ 115 (8, [some (.ref (32)), some (.int (a0))], [.int (r1.1)], r1.2) = _
  have hp := Option.some.inj hp
  subst hp
  exact e_ireturn f115_8 (Or.inl rfl)
set_option maxRecDepth 100000 in
set_option maxHeartbeats 4000000 in
theorem p115_w (h : HS) (w : WF h) (a0 : Int32) (r : Int32 × HS) (hp : p115 h a0 = some r) : WF r.2 := by
  unfold p115 at hp
  obtain ⟨r1, hr2, hp⟩ := bind_some hp
  try dsimp only at hp
  have hp := Option.some.inj hp
  subst hp
  exact ((p84_w (h) w (a0)  r1 hr2))
theorem f116_0 : fetch 116 0 = some (.aload_n 0, 0, 0, 0) := rfl
theorem f116_1 : fetch 116 1 = some (.getfield 16, 11, 5, 2) := rfl
theorem f116_4 : fetch 116 4 = some (.iload_n 1, 0, 0, 0) := rfl
theorem f116_5 : fetch 116 5 = some (.iload_n 2, 0, 0, 0) := rfl
theorem f116_6 : fetch 116 6 = some (.lload_n 3, 0, 0, 0) := rfl
theorem f116_7 : fetch 116 7 = some (.invokevirtual 99, 85, 3, 0) := rfl
theorem f116_10 : fetch 116 10 = some (.ireturn, 0, 0, 0) := rfl
set_option maxRecDepth 100000 in
set_option maxHeartbeats 4000000 in
theorem p116_ok (d : Nat) (h : HS) (w : WF h) (a0 : Int32) (a1 : Int32) (a2 : Int64) (r : Int32 × HS) (hp : p116 h a0 a1 a2 = some r) : ex (d + 3) 116 (ent 116 [.ref (32), .int (a0), .int (a1), .long (a2)] h) = some (some (.int (r.1)), r.2) := by
  rw [show ent 116 [.ref (32), .int (a0), .int (a1), .long (a2)] h = (0, [some (.ref (32)), some (.int (a0)), some (.int (a1)), some (.long (a2)), none], [], h) from by  rfl]
  refine ex_weak (ls := [some (.ref (32)), some (.int (a0)), some (.int (a1)), some (.long (a2)), none]) (le2_ok ⟨Or.inr rfl, Or.inr rfl, Or.inr rfl, Or.inr rfl, Or.inr rfl, trivial⟩) ?_
  unfold p116 at hp
  refine e_aload_n f116_0 rfl ?_
  refine e_getR f116_1 (WF.t w 32 (by decide)) rfl (WF.r (q := 33) w 32 5 (by decide)) ?_
  refine e_iload_n f116_4 rfl ?_
  refine e_iload_n f116_5 rfl ?_
  refine e_lload_n f116_6 rfl ?_
  obtain ⟨r1, hr2, hp⟩ := bind_some hp
  try dsimp only at hp
  refine e_callV (st := []) (o := 33) (as := [.int (a0), .int (a1), .long (a2)]) f116_7 (by decide) rfl rfl (Nat.le_of_ble_eq_true rfl) (WF.t w 33 (by decide)) (Nat.le_of_ble_eq_true rfl) (p85_ok d (h) w (a0) (a1) (a2) r1 hr2) ?_
  show ex _ 116 (10, [some (.ref (32)), some (.int (a0)), some (.int (a1)), some (.long (a2)), none], [.int (r1.1)], r1.2) = _
  have hp := Option.some.inj hp
  subst hp
  exact e_ireturn f116_10 (Or.inl rfl)
set_option maxRecDepth 100000 in
set_option maxHeartbeats 4000000 in
theorem p116_w (h : HS) (w : WF h) (a0 : Int32) (a1 : Int32) (a2 : Int64) (r : Int32 × HS) (hp : p116 h a0 a1 a2 = some r) : WF r.2 := by
  unfold p116 at hp
  obtain ⟨r1, hr2, hp⟩ := bind_some hp
  try dsimp only at hp
  have hp := Option.some.inj hp
  subst hp
  exact ((p85_w (h) w (a0) (a1) (a2)  r1 hr2))
theorem f117_0 : fetch 117 0 = some (.aload_n 0, 0, 0, 0) := rfl
theorem f117_1 : fetch 117 1 = some (.getfield 16, 11, 5, 2) := rfl
theorem f117_4 : fetch 117 4 = some (.iload_n 1, 0, 0, 0) := rfl
theorem f117_5 : fetch 117 5 = some (.invokevirtual 103, 87, 1, 0) := rfl
theorem f117_8 : fetch 117 8 = some (.ifCond .ne 6, 14, 0, 0) := rfl
theorem f117_11 : fetch 117 11 = some (.ldc 107, 0, 0, -40000) := rfl
theorem f117_13 : fetch 117 13 = some (.ireturn, 0, 0, 0) := rfl
theorem f117_14 : fetch 117 14 = some (.iload_n 2, 0, 0, 0) := rfl
theorem f117_15 : fetch 117 15 = some (.tableswitch 111 0 6 #[41, 51, 61, 71, 81, 91, 101], 0, 0, 0) := rfl
theorem f117_56 : fetch 117 56 = some (.aload_n 0, 0, 0, 0) := rfl
theorem f117_57 : fetch 117 57 = some (.getfield 16, 11, 5, 2) := rfl
theorem f117_60 : fetch 117 60 = some (.getfield 108, 8, 3, 2) := rfl
theorem f117_63 : fetch 117 63 = some (.iload_n 1, 0, 0, 0) := rfl
theorem f117_64 : fetch 117 64 = some (.iaload, 0, 0, 0) := rfl
theorem f117_65 : fetch 117 65 = some (.ireturn, 0, 0, 0) := rfl
theorem f117_66 : fetch 117 66 = some (.aload_n 0, 0, 0, 0) := rfl
theorem f117_67 : fetch 117 67 = some (.getfield 16, 11, 5, 2) := rfl
theorem f117_70 : fetch 117 70 = some (.getfield 112, 8, 4, 2) := rfl
theorem f117_73 : fetch 117 73 = some (.iload_n 1, 0, 0, 0) := rfl
theorem f117_74 : fetch 117 74 = some (.iaload, 0, 0, 0) := rfl
theorem f117_75 : fetch 117 75 = some (.ireturn, 0, 0, 0) := rfl
theorem f117_76 : fetch 117 76 = some (.aload_n 0, 0, 0, 0) := rfl
theorem f117_77 : fetch 117 77 = some (.getfield 16, 11, 5, 2) := rfl
theorem f117_80 : fetch 117 80 = some (.iload_n 1, 0, 0, 0) := rfl
theorem f117_81 : fetch 117 81 = some (.iconst 0, 0, 0, 0) := rfl
theorem f117_82 : fetch 117 82 = some (.invokevirtual 115, 88, 2, 0) := rfl
theorem f117_85 : fetch 117 85 = some (.ireturn, 0, 0, 0) := rfl
theorem f117_86 : fetch 117 86 = some (.aload_n 0, 0, 0, 0) := rfl
theorem f117_87 : fetch 117 87 = some (.getfield 16, 11, 5, 2) := rfl
theorem f117_90 : fetch 117 90 = some (.iload_n 1, 0, 0, 0) := rfl
theorem f117_91 : fetch 117 91 = some (.iconst 1, 0, 0, 0) := rfl
theorem f117_92 : fetch 117 92 = some (.invokevirtual 115, 88, 2, 0) := rfl
theorem f117_95 : fetch 117 95 = some (.ireturn, 0, 0, 0) := rfl
theorem f117_96 : fetch 117 96 = some (.aload_n 0, 0, 0, 0) := rfl
theorem f117_97 : fetch 117 97 = some (.getfield 16, 11, 5, 2) := rfl
theorem f117_100 : fetch 117 100 = some (.iload_n 1, 0, 0, 0) := rfl
theorem f117_101 : fetch 117 101 = some (.iconst 2, 0, 0, 0) := rfl
theorem f117_102 : fetch 117 102 = some (.invokevirtual 115, 88, 2, 0) := rfl
theorem f117_105 : fetch 117 105 = some (.ireturn, 0, 0, 0) := rfl
theorem f117_106 : fetch 117 106 = some (.aload_n 0, 0, 0, 0) := rfl
theorem f117_107 : fetch 117 107 = some (.getfield 16, 11, 5, 2) := rfl
theorem f117_110 : fetch 117 110 = some (.iload_n 1, 0, 0, 0) := rfl
theorem f117_111 : fetch 117 111 = some (.iconst 3, 0, 0, 0) := rfl
theorem f117_112 : fetch 117 112 = some (.invokevirtual 115, 88, 2, 0) := rfl
theorem f117_115 : fetch 117 115 = some (.ireturn, 0, 0, 0) := rfl
theorem f117_116 : fetch 117 116 = some (.aload_n 0, 0, 0, 0) := rfl
theorem f117_117 : fetch 117 117 = some (.getfield 16, 11, 5, 2) := rfl
theorem f117_120 : fetch 117 120 = some (.getfield 119, 8, 5, 2) := rfl
theorem f117_123 : fetch 117 123 = some (.iload_n 1, 0, 0, 0) := rfl
theorem f117_124 : fetch 117 124 = some (.iaload, 0, 0, 0) := rfl
theorem f117_125 : fetch 117 125 = some (.ireturn, 0, 0, 0) := rfl
theorem f117_126 : fetch 117 126 = some (.ldc 107, 0, 0, -40000) := rfl
theorem f117_128 : fetch 117 128 = some (.ireturn, 0, 0, 0) := rfl
set_option maxRecDepth 100000 in
set_option maxHeartbeats 4000000 in
theorem p117_ok (d : Nat) (h : HS) (w : WF h) (a0 : Int32) (a1 : Int32) (r : Int32) (hp : p117 h a0 a1 = some r) : ex (d + 2) 117 (ent 117 [.ref (32), .int (a0), .int (a1)] h) = some (some (.int (r)), h) := by
  rw [show ent 117 [.ref (32), .int (a0), .int (a1)] h = (0, [some (.ref (32)), some (.int (a0)), some (.int (a1))], [], h) from by  rfl]
  refine ex_weak (ls := [some (.ref (32)), some (.int (a0)), some (.int (a1))]) (le2_ok ⟨Or.inr rfl, Or.inr rfl, Or.inr rfl, trivial⟩) ?_
  unfold p117 at hp
  refine e_aload_n f117_0 rfl ?_
  refine e_getR f117_1 (WF.t w 32 (by decide)) rfl (WF.r (q := 33) w 32 5 (by decide)) ?_
  refine e_iload_n f117_4 rfl ?_
  obtain ⟨r1, hr2, hp⟩ := bind_some hp
  try dsimp only at hp
  refine e_callV (st := []) (o := 33) (as := [.int (a0)]) f117_5 (by decide) rfl rfl (Nat.le_of_ble_eq_true rfl) (WF.t w 33 (by decide)) (Nat.le_of_ble_eq_true rfl) (p87_ok d (h) w (a0) r1 hr2) ?_
  show ex _ 117 (8, [some (.ref (32)), some (.int (a0)), some (.int (a1))], [.int (r1)], h) = _
  by_cases hc3 : (r1) = (0 : Int32)
  · rw [if_pos hc3] at hp
    refine e_if_ne_f f117_8 hc3 ?_
    refine e_ldc (v := -40000) f117_11 (by decide) (by decide) ?_
    have hp := Option.some.inj hp
    subst hp
    exact e_ireturn f117_13 (Or.inl rfl)
  · rw [if_neg hc3] at hp
    refine e_if_ne_t f117_8 hc3 ?_
    refine e_iload_n f117_14 rfl ?_
    by_cases hc4 : (a1) = (0 : Int32)
    · rw [if_pos hc4] at hp
      refine e_sw (t := 56) f117_15 (by rw [hc4]; decide) (by rw [hc4]; decide) ?_
      refine e_aload_n f117_56 rfl ?_
      refine e_getR f117_57 (WF.t w 32 (by decide)) rfl (WF.r (q := 33) w 32 5 (by decide)) ?_
      refine e_getR f117_60 (WF.t w 33 (by decide)) rfl (WF.r (q := 35) w 33 3 (by decide)) ?_
      refine e_iload_n f117_63 rfl ?_
      by_cases hg5 : (a0) < (0 : Int32) ∨ 200 ≤ (a0).toNatClampNeg
      · rw [if_pos hg5] at hp; cases hp
      rw [if_neg hg5] at hp
      refine e_iaload f117_64 (Or.inl (WF.t w 35 (by decide))) (WF.n w 35 (by decide)) hg5 ?_
      have hp := Option.some.inj hp
      subst hp
      exact e_ireturn f117_65 (Or.inl rfl)
    rw [if_neg hc4] at hp
    by_cases hc6 : (a1) = (1 : Int32)
    · rw [if_pos hc6] at hp
      refine e_sw (t := 66) f117_15 (by rw [hc6]; decide) (by rw [hc6]; decide) ?_
      refine e_aload_n f117_66 rfl ?_
      refine e_getR f117_67 (WF.t w 32 (by decide)) rfl (WF.r (q := 33) w 32 5 (by decide)) ?_
      refine e_getR f117_70 (WF.t w 33 (by decide)) rfl (WF.r (q := 36) w 33 4 (by decide)) ?_
      refine e_iload_n f117_73 rfl ?_
      by_cases hg7 : (a0) < (0 : Int32) ∨ 200 ≤ (a0).toNatClampNeg
      · rw [if_pos hg7] at hp; cases hp
      rw [if_neg hg7] at hp
      refine e_iaload f117_74 (Or.inl (WF.t w 36 (by decide))) (WF.n w 36 (by decide)) hg7 ?_
      have hp := Option.some.inj hp
      subst hp
      exact e_ireturn f117_75 (Or.inl rfl)
    rw [if_neg hc6] at hp
    by_cases hc8 : (a1) = (2 : Int32)
    · rw [if_pos hc8] at hp
      refine e_sw (t := 76) f117_15 (by rw [hc8]; decide) (by rw [hc8]; decide) ?_
      refine e_aload_n f117_76 rfl ?_
      refine e_getR f117_77 (WF.t w 32 (by decide)) rfl (WF.r (q := 33) w 32 5 (by decide)) ?_
      refine e_iload_n f117_80 rfl ?_
      refine e_iconst (v := 0) f117_81 (by decide) ?_
      obtain ⟨r9, hr10, hp⟩ := bind_some hp
      try dsimp only at hp
      refine e_callV (st := []) (o := 33) (as := [.int (a0), .int (0)]) f117_82 (by decide) rfl rfl (Nat.le_of_ble_eq_true rfl) (WF.t w 33 (by decide)) (Nat.le_of_ble_eq_true rfl) (p88_ok (d + 1) (h) w (a0) (0) r9 hr10) ?_
      show ex _ 117 (85, [some (.ref (32)), some (.int (a0)), some (.int (a1))], [.int (r9)], h) = _
      have hp := Option.some.inj hp
      subst hp
      exact e_ireturn f117_85 (Or.inl rfl)
    rw [if_neg hc8] at hp
    by_cases hc11 : (a1) = (3 : Int32)
    · rw [if_pos hc11] at hp
      refine e_sw (t := 86) f117_15 (by rw [hc11]; decide) (by rw [hc11]; decide) ?_
      refine e_aload_n f117_86 rfl ?_
      refine e_getR f117_87 (WF.t w 32 (by decide)) rfl (WF.r (q := 33) w 32 5 (by decide)) ?_
      refine e_iload_n f117_90 rfl ?_
      refine e_iconst (v := 1) f117_91 (by decide) ?_
      obtain ⟨r12, hr13, hp⟩ := bind_some hp
      try dsimp only at hp
      refine e_callV (st := []) (o := 33) (as := [.int (a0), .int (1)]) f117_92 (by decide) rfl rfl (Nat.le_of_ble_eq_true rfl) (WF.t w 33 (by decide)) (Nat.le_of_ble_eq_true rfl) (p88_ok (d + 1) (h) w (a0) (1) r12 hr13) ?_
      show ex _ 117 (95, [some (.ref (32)), some (.int (a0)), some (.int (a1))], [.int (r12)], h) = _
      have hp := Option.some.inj hp
      subst hp
      exact e_ireturn f117_95 (Or.inl rfl)
    rw [if_neg hc11] at hp
    by_cases hc14 : (a1) = (4 : Int32)
    · rw [if_pos hc14] at hp
      refine e_sw (t := 96) f117_15 (by rw [hc14]; decide) (by rw [hc14]; decide) ?_
      refine e_aload_n f117_96 rfl ?_
      refine e_getR f117_97 (WF.t w 32 (by decide)) rfl (WF.r (q := 33) w 32 5 (by decide)) ?_
      refine e_iload_n f117_100 rfl ?_
      refine e_iconst (v := 2) f117_101 (by decide) ?_
      obtain ⟨r15, hr16, hp⟩ := bind_some hp
      try dsimp only at hp
      refine e_callV (st := []) (o := 33) (as := [.int (a0), .int (2)]) f117_102 (by decide) rfl rfl (Nat.le_of_ble_eq_true rfl) (WF.t w 33 (by decide)) (Nat.le_of_ble_eq_true rfl) (p88_ok (d + 1) (h) w (a0) (2) r15 hr16) ?_
      show ex _ 117 (105, [some (.ref (32)), some (.int (a0)), some (.int (a1))], [.int (r15)], h) = _
      have hp := Option.some.inj hp
      subst hp
      exact e_ireturn f117_105 (Or.inl rfl)
    rw [if_neg hc14] at hp
    by_cases hc17 : (a1) = (5 : Int32)
    · rw [if_pos hc17] at hp
      refine e_sw (t := 106) f117_15 (by rw [hc17]; decide) (by rw [hc17]; decide) ?_
      refine e_aload_n f117_106 rfl ?_
      refine e_getR f117_107 (WF.t w 32 (by decide)) rfl (WF.r (q := 33) w 32 5 (by decide)) ?_
      refine e_iload_n f117_110 rfl ?_
      refine e_iconst (v := 3) f117_111 (by decide) ?_
      obtain ⟨r18, hr19, hp⟩ := bind_some hp
      try dsimp only at hp
      refine e_callV (st := []) (o := 33) (as := [.int (a0), .int (3)]) f117_112 (by decide) rfl rfl (Nat.le_of_ble_eq_true rfl) (WF.t w 33 (by decide)) (Nat.le_of_ble_eq_true rfl) (p88_ok (d + 1) (h) w (a0) (3) r18 hr19) ?_
      show ex _ 117 (115, [some (.ref (32)), some (.int (a0)), some (.int (a1))], [.int (r18)], h) = _
      have hp := Option.some.inj hp
      subst hp
      exact e_ireturn f117_115 (Or.inl rfl)
    rw [if_neg hc17] at hp
    by_cases hc20 : (a1) = (6 : Int32)
    · rw [if_pos hc20] at hp
      refine e_sw (t := 116) f117_15 (by rw [hc20]; decide) (by rw [hc20]; decide) ?_
      refine e_aload_n f117_116 rfl ?_
      refine e_getR f117_117 (WF.t w 32 (by decide)) rfl (WF.r (q := 33) w 32 5 (by decide)) ?_
      refine e_getR f117_120 (WF.t w 33 (by decide)) rfl (WF.r (q := 37) w 33 5 (by decide)) ?_
      refine e_iload_n f117_123 rfl ?_
      by_cases hg21 : (a0) < (0 : Int32) ∨ 200 ≤ (a0).toNatClampNeg
      · rw [if_pos hg21] at hp; cases hp
      rw [if_neg hg21] at hp
      refine e_iaload f117_124 (Or.inl (WF.t w 37 (by decide))) (WF.n w 37 (by decide)) hg21 ?_
      have hp := Option.some.inj hp
      subst hp
      exact e_ireturn f117_125 (Or.inl rfl)
    rw [if_neg hc20] at hp
    have ho22 := sw_out (x := a1) 0 6 (fun j h1 h2 => by
      rcases (show j = 0 ∨ j = 1 ∨ j = 2 ∨ j = 3 ∨ j = 4 ∨ j = 5 ∨ j = 6 by omega) with rfl | rfl | rfl | rfl | rfl | rfl | rfl
      · exact i32_ne hc4 (by decide)
      · exact i32_ne hc6 (by decide)
      · exact i32_ne hc8 (by decide)
      · exact i32_ne hc11 (by decide)
      · exact i32_ne hc14 (by decide)
      · exact i32_ne hc17 (by decide)
      · exact i32_ne hc20 (by decide))
    refine e_sw (t := 126) f117_15 ⟨by rw [swTo, if_pos ho22]; decide, by decide⟩ (by rw [swTo, if_pos ho22]; decide) ?_
    refine e_ldc (v := -40000) f117_126 (by decide) (by decide) ?_
    have hp := Option.some.inj hp
    subst hp
    exact e_ireturn f117_128 (Or.inl rfl)
theorem f118_0 : fetch 118 0 = some (.aload_n 0, 0, 0, 0) := rfl
theorem f118_1 : fetch 118 1 = some (.getfield 16, 11, 5, 2) := rfl
theorem f118_4 : fetch 118 4 = some (.iload_n 1, 0, 0, 0) := rfl
theorem f118_5 : fetch 118 5 = some (.invokevirtual 103, 87, 1, 0) := rfl
theorem f118_8 : fetch 118 8 = some (.ifCond .eq 28, 36, 0, 0) := rfl
theorem f118_11 : fetch 118 11 = some (.aload_n 0, 0, 0, 0) := rfl
theorem f118_12 : fetch 118 12 = some (.getfield 16, 11, 5, 2) := rfl
theorem f118_15 : fetch 118 15 = some (.iload_n 2, 0, 0, 0) := rfl
theorem f118_16 : fetch 118 16 = some (.invokevirtual 103, 87, 1, 0) := rfl
theorem f118_19 : fetch 118 19 = some (.ifCond .eq 17, 36, 0, 0) := rfl
theorem f118_22 : fetch 118 22 = some (.iload_n 1, 0, 0, 0) := rfl
theorem f118_23 : fetch 118 23 = some (.iload_n 2, 0, 0, 0) := rfl
theorem f118_24 : fetch 118 24 = some (.if_icmp .eq 12, 36, 0, 0) := rfl
theorem f118_27 : fetch 118 27 = some (.iload_n 3, 0, 0, 0) := rfl
theorem f118_28 : fetch 118 28 = some (.iconst 0, 0, 0, 0) := rfl
theorem f118_29 : fetch 118 29 = some (.iconst 1, 0, 0, 0) := rfl
theorem f118_30 : fetch 118 30 = some (.invokestatic 91, 166, 3, 1) := rfl
theorem f118_33 : fetch 118 33 = some (.ifCond .ne 5, 38, 0, 0) := rfl
theorem f118_36 : fetch 118 36 = some (.iconst (-1), 0, 0, 0) := rfl
theorem f118_37 : fetch 118 37 = some (.ireturn, 0, 0, 0) := rfl
theorem f118_38 : fetch 118 38 = some (.iload_n 3, 0, 0, 0) := rfl
theorem f118_39 : fetch 118 39 = some (.ifCond .ne 18, 57, 0, 0) := rfl
theorem f118_42 : fetch 118 42 = some (.aload_n 0, 0, 0, 0) := rfl
theorem f118_43 : fetch 118 43 = some (.getfield 16, 11, 5, 2) := rfl
theorem f118_46 : fetch 118 46 = some (.iload_n 1, 0, 0, 0) := rfl
theorem f118_47 : fetch 118 47 = some (.iload_n 2, 0, 0, 0) := rfl
theorem f118_48 : fetch 118 48 = some (.invokevirtual 122, 89, 2, 0) := rfl
theorem f118_51 : fetch 118 51 = some (.ifCond .eq 22, 73, 0, 0) := rfl
theorem f118_54 : fetch 118 54 = some (.goto 15, 69, 0, 0) := rfl
theorem f118_57 : fetch 118 57 = some (.aload_n 0, 0, 0, 0) := rfl
theorem f118_58 : fetch 118 58 = some (.getfield 16, 11, 5, 2) := rfl
theorem f118_61 : fetch 118 61 = some (.iload_n 1, 0, 0, 0) := rfl
theorem f118_62 : fetch 118 62 = some (.iload_n 2, 0, 0, 0) := rfl
theorem f118_63 : fetch 118 63 = some (.invokevirtual 126, 90, 2, 0) := rfl
theorem f118_66 : fetch 118 66 = some (.ifCond .eq 7, 73, 0, 0) := rfl
theorem f118_69 : fetch 118 69 = some (.iconst 1, 0, 0, 0) := rfl
theorem f118_70 : fetch 118 70 = some (.goto 4, 74, 0, 0) := rfl
theorem f118_73 : fetch 118 73 = some (.iconst 0, 0, 0, 0) := rfl
theorem f118_74 : fetch 118 74 = some (.ireturn, 0, 0, 0) := rfl
set_option maxRecDepth 100000 in
set_option maxHeartbeats 4000000 in
theorem p118_ok (d : Nat) (h : HS) (w : WF h) (a0 : Int32) (a1 : Int32) (a2 : Int32) (r : Int32) (hp : p118 h a0 a1 a2 = some r) : ex (d + 2) 118 (ent 118 [.ref (32), .int (a0), .int (a1), .int (a2)] h) = some (some (.int (r)), h) := by
  rw [show ent 118 [.ref (32), .int (a0), .int (a1), .int (a2)] h = (0, [some (.ref (32)), some (.int (a0)), some (.int (a1)), some (.int (a2))], [], h) from by  rfl]
  refine ex_weak (ls := [some (.ref (32)), some (.int (a0)), some (.int (a1)), some (.int (a2))]) (le2_ok ⟨Or.inr rfl, Or.inr rfl, Or.inr rfl, Or.inr rfl, trivial⟩) ?_
  unfold p118 at hp
  refine e_aload_n f118_0 rfl ?_
  refine e_getR f118_1 (WF.t w 32 (by decide)) rfl (WF.r (q := 33) w 32 5 (by decide)) ?_
  refine e_iload_n f118_4 rfl ?_
  obtain ⟨r1, hr2, hp⟩ := bind_some hp
  try dsimp only at hp
  refine e_callV (st := []) (o := 33) (as := [.int (a0)]) f118_5 (by decide) rfl rfl (Nat.le_of_ble_eq_true rfl) (WF.t w 33 (by decide)) (Nat.le_of_ble_eq_true rfl) (p87_ok d (h) w (a0) r1 hr2) ?_
  show ex _ 118 (8, [some (.ref (32)), some (.int (a0)), some (.int (a1)), some (.int (a2))], [.int (r1)], h) = _
  by_cases hc3 : (r1) = (0 : Int32)
  · rw [if_pos hc3] at hp
    refine e_if_eq_t f118_8 hc3 ?_
    refine e_iconst (v := -1) f118_36 (by decide) ?_
    have hp := Option.some.inj hp
    subst hp
    exact e_ireturn f118_37 (Or.inl rfl)
  · rw [if_neg hc3] at hp
    refine e_if_eq_f f118_8 hc3 ?_
    refine e_aload_n f118_11 rfl ?_
    refine e_getR f118_12 (WF.t w 32 (by decide)) rfl (WF.r (q := 33) w 32 5 (by decide)) ?_
    refine e_iload_n f118_15 rfl ?_
    obtain ⟨r4, hr5, hp⟩ := bind_some hp
    try dsimp only at hp
    refine e_callV (st := []) (o := 33) (as := [.int (a1)]) f118_16 (by decide) rfl rfl (Nat.le_of_ble_eq_true rfl) (WF.t w 33 (by decide)) (Nat.le_of_ble_eq_true rfl) (p87_ok d (h) w (a1) r4 hr5) ?_
    show ex _ 118 (19, [some (.ref (32)), some (.int (a0)), some (.int (a1)), some (.int (a2))], [.int (r4)], h) = _
    by_cases hc6 : (r4) = (0 : Int32)
    · rw [if_pos hc6] at hp
      refine e_if_eq_t f118_19 hc6 ?_
      refine e_iconst (v := -1) f118_36 (by decide) ?_
      have hp := Option.some.inj hp
      subst hp
      exact e_ireturn f118_37 (Or.inl rfl)
    · rw [if_neg hc6] at hp
      refine e_if_eq_f f118_19 hc6 ?_
      refine e_iload_n f118_22 rfl ?_
      refine e_iload_n f118_23 rfl ?_
      by_cases hc7 : (a0) = ((a1) : Int32)
      · rw [if_pos hc7] at hp
        refine e_icmp_eq_t f118_24 hc7 ?_
        refine e_iconst (v := -1) f118_36 (by decide) ?_
        have hp := Option.some.inj hp
        subst hp
        exact e_ireturn f118_37 (Or.inl rfl)
      · rw [if_neg hc7] at hp
        refine e_icmp_eq_f f118_24 hc7 ?_
        refine e_iload_n f118_27 rfl ?_
        refine e_iconst (v := 0) f118_28 (by decide) ?_
        refine e_iconst (v := 1) f118_29 (by decide) ?_
        obtain ⟨r8, hr9, hp⟩ := bind_some hp
        try dsimp only at hp
        refine e_callS (st := []) (as := [.int (a2), .int (0), .int (1)]) f118_30 (by decide) rfl rfl (Nat.le_of_ble_eq_true rfl) (Nat.le_of_ble_eq_true rfl) (p166_ok (d + 1) (h) w (a2) (0) (1) r8 hr9) ?_
        show ex _ 118 (33, [some (.ref (32)), some (.int (a0)), some (.int (a1)), some (.int (a2))], [.int (r8)], h) = _
        by_cases hc10 : (r8) = (0 : Int32)
        · rw [if_pos hc10] at hp
          refine e_if_ne_f f118_33 hc10 ?_
          refine e_iconst (v := -1) f118_36 (by decide) ?_
          have hp := Option.some.inj hp
          subst hp
          exact e_ireturn f118_37 (Or.inl rfl)
        · rw [if_neg hc10] at hp
          refine e_if_ne_t f118_33 hc10 ?_
          refine e_iload_n f118_38 rfl ?_
          by_cases hc11 : (a2) = (0 : Int32)
          · rw [if_pos hc11] at hp
            refine e_if_ne_f f118_39 hc11 ?_
            refine e_aload_n f118_42 rfl ?_
            refine e_getR f118_43 (WF.t w 32 (by decide)) rfl (WF.r (q := 33) w 32 5 (by decide)) ?_
            refine e_iload_n f118_46 rfl ?_
            refine e_iload_n f118_47 rfl ?_
            obtain ⟨r12, hr13, hp⟩ := bind_some hp
            try dsimp only at hp
            refine e_callV (st := []) (o := 33) (as := [.int (a0), .int (a1)]) f118_48 (by decide) rfl rfl (Nat.le_of_ble_eq_true rfl) (WF.t w 33 (by decide)) (Nat.le_of_ble_eq_true rfl) (p89_ok d (h) w (a0) (a1) r12 hr13) ?_
            show ex _ 118 (51, [some (.ref (32)), some (.int (a0)), some (.int (a1)), some (.int (a2))], [.int (r12)], h) = _
            by_cases hc14 : (r12) = (0 : Int32)
            · rw [if_pos hc14] at hp
              refine e_if_eq_t f118_51 hc14 ?_
              refine e_iconst (v := 0) f118_73 (by decide) ?_
              have hp := Option.some.inj hp
              subst hp
              exact e_ireturn f118_74 (Or.inl rfl)
            · rw [if_neg hc14] at hp
              refine e_if_eq_f f118_51 hc14 ?_
              refine e_goto f118_54 ?_
              refine e_iconst (v := 1) f118_69 (by decide) ?_
              refine e_goto f118_70 ?_
              have hp := Option.some.inj hp
              subst hp
              exact e_ireturn f118_74 (Or.inl rfl)
          · rw [if_neg hc11] at hp
            refine e_if_ne_t f118_39 hc11 ?_
            refine e_aload_n f118_57 rfl ?_
            refine e_getR f118_58 (WF.t w 32 (by decide)) rfl (WF.r (q := 33) w 32 5 (by decide)) ?_
            refine e_iload_n f118_61 rfl ?_
            refine e_iload_n f118_62 rfl ?_
            obtain ⟨r15, hr16, hp⟩ := bind_some hp
            try dsimp only at hp
            refine e_callV (st := []) (o := 33) (as := [.int (a0), .int (a1)]) f118_63 (by decide) rfl rfl (Nat.le_of_ble_eq_true rfl) (WF.t w 33 (by decide)) (Nat.le_of_ble_eq_true rfl) (p90_ok d (h) w (a0) (a1) r15 hr16) ?_
            show ex _ 118 (66, [some (.ref (32)), some (.int (a0)), some (.int (a1)), some (.int (a2))], [.int (r15)], h) = _
            by_cases hc17 : (r15) = (0 : Int32)
            · rw [if_pos hc17] at hp
              refine e_if_eq_t f118_66 hc17 ?_
              refine e_iconst (v := 0) f118_73 (by decide) ?_
              have hp := Option.some.inj hp
              subst hp
              exact e_ireturn f118_74 (Or.inl rfl)
            · rw [if_neg hc17] at hp
              refine e_if_eq_f f118_66 hc17 ?_
              refine e_iconst (v := 1) f118_69 (by decide) ?_
              refine e_goto f118_70 ?_
              have hp := Option.some.inj hp
              subst hp
              exact e_ireturn f118_74 (Or.inl rfl)
theorem f119_0 : fetch 119 0 = some (.aload_n 0, 0, 0, 0) := rfl
theorem f119_1 : fetch 119 1 = some (.getfield 25, 11, 6, 2) := rfl
theorem f119_4 : fetch 119 4 = some (.iload_n 1, 0, 0, 0) := rfl
theorem f119_5 : fetch 119 5 = some (.iload_n 2, 0, 0, 0) := rfl
theorem f119_6 : fetch 119 6 = some (.iload_n 3, 0, 0, 0) := rfl
theorem f119_7 : fetch 119 7 = some (.invokevirtual 129, 44, 3, 0) := rfl
theorem f119_10 : fetch 119 10 = some (.ireturn, 0, 0, 0) := rfl
set_option maxRecDepth 100000 in
set_option maxHeartbeats 4000000 in
theorem p119_ok (d : Nat) (F : Nat) (h : HS) (w : WF h) (a0 : Int32) (a1 : Int32) (a2 : Int32) (r : Int32 × HS) (hp : p119 F h a0 a1 a2 = some r) : ex (d + 34) 119 (ent 119 [.ref (32), .int (a0), .int (a1), .int (a2)] h) = some (some (.int (r.1)), r.2) := by
  rw [show ent 119 [.ref (32), .int (a0), .int (a1), .int (a2)] h = (0, [some (.ref (32)), some (.int (a0)), some (.int (a1)), some (.int (a2))], [], h) from by  rfl]
  refine ex_weak (ls := [some (.ref (32)), some (.int (a0)), some (.int (a1)), some (.int (a2))]) (le2_ok ⟨Or.inr rfl, Or.inr rfl, Or.inr rfl, Or.inr rfl, trivial⟩) ?_
  unfold p119 at hp
  refine e_aload_n f119_0 rfl ?_
  refine e_getR f119_1 (WF.t w 32 (by decide)) rfl (WF.r (q := 39) w 32 6 (by decide)) ?_
  refine e_iload_n f119_4 rfl ?_
  refine e_iload_n f119_5 rfl ?_
  refine e_iload_n f119_6 rfl ?_
  obtain ⟨r1, hr2, hp⟩ := bind_some hp
  try dsimp only at hp
  refine e_callV (st := []) (o := 39) (as := [.int (a0), .int (a1), .int (a2)]) f119_7 (by decide) rfl rfl (Nat.le_of_ble_eq_true rfl) (WF.t w 39 (by decide)) (Nat.le_of_ble_eq_true rfl) (p44_ok d F (h) w (a0) (a1) (a2) r1 hr2) ?_
  show ex _ 119 (10, [some (.ref (32)), some (.int (a0)), some (.int (a1)), some (.int (a2))], [.int (r1.1)], r1.2) = _
  have hp := Option.some.inj hp
  subst hp
  exact e_ireturn f119_10 (Or.inl rfl)
set_option maxRecDepth 100000 in
set_option maxHeartbeats 4000000 in
theorem p119_w (F : Nat) (h : HS) (w : WF h) (a0 : Int32) (a1 : Int32) (a2 : Int32) (r : Int32 × HS) (hp : p119 F h a0 a1 a2 = some r) : WF r.2 := by
  unfold p119 at hp
  obtain ⟨r1, hr2, hp⟩ := bind_some hp
  try dsimp only at hp
  have hp := Option.some.inj hp
  subst hp
  exact ((p44_w F (h) w (a0) (a1) (a2)  r1 hr2))
theorem f120_0 : fetch 120 0 = some (.iload_n 2, 0, 0, 0) := rfl
theorem f120_1 : fetch 120 1 = some (.iconst (-1), 0, 0, 0) := rfl
theorem f120_2 : fetch 120 2 = some (.if_icmp .ne 13, 15, 0, 0) := rfl
theorem f120_5 : fetch 120 5 = some (.aload_n 0, 0, 0, 0) := rfl
theorem f120_6 : fetch 120 6 = some (.getfield 25, 11, 6, 2) := rfl
theorem f120_9 : fetch 120 9 = some (.invokevirtual 133, 52, 0, 0) := rfl
theorem f120_12 : fetch 120 12 = some (.goto 12, 24, 0, 0) := rfl
theorem f120_15 : fetch 120 15 = some (.aload_n 0, 0, 0, 0) := rfl
theorem f120_16 : fetch 120 16 = some (.getfield 25, 11, 6, 2) := rfl
theorem f120_19 : fetch 120 19 = some (.iload_n 1, 0, 0, 0) := rfl
theorem f120_20 : fetch 120 20 = some (.iload_n 2, 0, 0, 0) := rfl
theorem f120_21 : fetch 120 21 = some (.invokevirtual 137, 53, 2, 0) := rfl
theorem f120_24 : fetch 120 24 = some (.ireturn, 0, 0, 0) := rfl
set_option maxRecDepth 100000 in
set_option maxHeartbeats 4000000 in
theorem p120_ok (d : Nat) (h : HS) (w : WF h) (a0 : Int32) (a1 : Int32) (r : Int32) (hp : p120 h a0 a1 = some r) : ex (d + 3) 120 (ent 120 [.ref (32), .int (a0), .int (a1)] h) = some (some (.int (r)), h) := by
  rw [show ent 120 [.ref (32), .int (a0), .int (a1)] h = (0, [some (.ref (32)), some (.int (a0)), some (.int (a1))], [], h) from by  rfl]
  refine ex_weak (ls := [some (.ref (32)), some (.int (a0)), some (.int (a1))]) (le2_ok ⟨Or.inr rfl, Or.inr rfl, Or.inr rfl, trivial⟩) ?_
  unfold p120 at hp
  refine e_iload_n f120_0 rfl ?_
  refine e_iconst (v := -1) f120_1 (by decide) ?_
  by_cases hc1 : (a1) = (((-1)) : Int32)
  · rw [if_pos hc1] at hp
    refine e_icmp_ne_f f120_2 hc1 ?_
    refine e_aload_n f120_5 rfl ?_
    refine e_getR f120_6 (WF.t w 32 (by decide)) rfl (WF.r (q := 39) w 32 6 (by decide)) ?_
    obtain ⟨r2, hr3, hp⟩ := bind_some hp
    try dsimp only at hp
    refine e_callV (st := []) (o := 39) (as := []) f120_9 (by decide) rfl rfl (Nat.le_of_ble_eq_true rfl) (WF.t w 39 (by decide)) (Nat.le_of_ble_eq_true rfl) (p52_ok (d + 2) (h) w r2 hr3) ?_
    show ex _ 120 (12, [some (.ref (32)), some (.int (a0)), some (.int (a1))], [.int (r2)], h) = _
    refine e_goto f120_12 ?_
    have hp := Option.some.inj hp
    subst hp
    exact e_ireturn f120_24 (Or.inl rfl)
  · rw [if_neg hc1] at hp
    refine e_icmp_ne_t f120_2 hc1 ?_
    refine e_aload_n f120_15 rfl ?_
    refine e_getR f120_16 (WF.t w 32 (by decide)) rfl (WF.r (q := 39) w 32 6 (by decide)) ?_
    refine e_iload_n f120_19 rfl ?_
    refine e_iload_n f120_20 rfl ?_
    obtain ⟨r4, hr5, hp⟩ := bind_some hp
    try dsimp only at hp
    refine e_callV (st := []) (o := 39) (as := [.int (a0), .int (a1)]) f120_21 (by decide) rfl rfl (Nat.le_of_ble_eq_true rfl) (WF.t w 39 (by decide)) (Nat.le_of_ble_eq_true rfl) (p53_ok d (h) w (a0) (a1) r4 hr5) ?_
    show ex _ 120 (24, [some (.ref (32)), some (.int (a0)), some (.int (a1))], [.int (r4)], h) = _
    have hp := Option.some.inj hp
    subst hp
    exact e_ireturn f120_24 (Or.inl rfl)
theorem f121_0 : fetch 121 0 = some (.aload_n 0, 0, 0, 0) := rfl
theorem f121_1 : fetch 121 1 = some (.getfield 25, 11, 6, 2) := rfl
theorem f121_4 : fetch 121 4 = some (.iload_n 1, 0, 0, 0) := rfl
theorem f121_5 : fetch 121 5 = some (.iload_n 2, 0, 0, 0) := rfl
theorem f121_6 : fetch 121 6 = some (.lload_n 3, 0, 0, 0) := rfl
theorem f121_7 : fetch 121 7 = some (.invokevirtual 140, 58, 3, 0) := rfl
theorem f121_10 : fetch 121 10 = some (.ireturn, 0, 0, 0) := rfl
set_option maxRecDepth 100000 in
set_option maxHeartbeats 4000000 in
theorem p121_ok (d : Nat) (F : Nat) (h : HS) (w : WF h) (a0 : Int32) (a1 : Int32) (a2 : Int64) (r : Int32 × HS) (hp : p121 F h a0 a1 a2 = some r) : ex (d + 4) 121 (ent 121 [.ref (32), .int (a0), .int (a1), .long (a2)] h) = some (some (.int (r.1)), r.2) := by
  rw [show ent 121 [.ref (32), .int (a0), .int (a1), .long (a2)] h = (0, [some (.ref (32)), some (.int (a0)), some (.int (a1)), some (.long (a2)), none], [], h) from by  rfl]
  refine ex_weak (ls := [some (.ref (32)), some (.int (a0)), some (.int (a1)), some (.long (a2)), none]) (le2_ok ⟨Or.inr rfl, Or.inr rfl, Or.inr rfl, Or.inr rfl, Or.inr rfl, trivial⟩) ?_
  unfold p121 at hp
  refine e_aload_n f121_0 rfl ?_
  refine e_getR f121_1 (WF.t w 32 (by decide)) rfl (WF.r (q := 39) w 32 6 (by decide)) ?_
  refine e_iload_n f121_4 rfl ?_
  refine e_iload_n f121_5 rfl ?_
  refine e_lload_n f121_6 rfl ?_
  obtain ⟨r1, hr2, hp⟩ := bind_some hp
  try dsimp only at hp
  refine e_callV (st := []) (o := 39) (as := [.int (a0), .int (a1), .long (a2)]) f121_7 (by decide) rfl rfl (Nat.le_of_ble_eq_true rfl) (WF.t w 39 (by decide)) (Nat.le_of_ble_eq_true rfl) (p58_ok d F (h) w (a0) (a1) (a2) r1 hr2) ?_
  show ex _ 121 (10, [some (.ref (32)), some (.int (a0)), some (.int (a1)), some (.long (a2)), none], [.int (r1.1)], r1.2) = _
  have hp := Option.some.inj hp
  subst hp
  exact e_ireturn f121_10 (Or.inl rfl)
set_option maxRecDepth 100000 in
set_option maxHeartbeats 4000000 in
theorem p121_w (F : Nat) (h : HS) (w : WF h) (a0 : Int32) (a1 : Int32) (a2 : Int64) (r : Int32 × HS) (hp : p121 F h a0 a1 a2 = some r) : WF r.2 := by
  unfold p121 at hp
  obtain ⟨r1, hr2, hp⟩ := bind_some hp
  try dsimp only at hp
  have hp := Option.some.inj hp
  subst hp
  exact ((p58_w F (h) w (a0) (a1) (a2)  r1 hr2))
theorem f172_0 : fetch 172 0 = some (.aload_n 0, 0, 0, 0) := rfl
theorem f172_1 : fetch 172 1 = some (.getfield 31, 11, 7, 2) := rfl
theorem f172_4 : fetch 172 4 = some (.aload_n 0, 0, 0, 0) := rfl
theorem f172_5 : fetch 172 5 = some (.getfield 143, 11, 2, 0) := rfl
theorem f172_8 : fetch 172 8 = some (.new 29, 9, 13, 0) := rfl
theorem f172_11 : fetch 172 11 = some (.dup, 0, 0, 0) := rfl
theorem f172_12 : fetch 172 12 = some (.aload_n 0, 0, 0, 0) := rfl
theorem f172_13 : fetch 172 13 = some (.getfield 143, 11, 2, 0) := rfl
theorem f172_16 : fetch 172 16 = some (.aload_n 0, 0, 0, 0) := rfl
theorem f172_17 : fetch 172 17 = some (.getfield 88, 11, 0, 0) := rfl
theorem f172_20 : fetch 172 20 = some (.invokespecial 473, 94, 2, 3) := rfl
theorem f172_23 : fetch 172 23 = some (.aastore, 0, 0, 0) := rfl
theorem f172_24 : fetch 172 24 = some (.aload_n 0, 0, 0, 0) := rfl
theorem f172_25 : fetch 172 25 = some (.dup, 0, 0, 0) := rfl
theorem f172_26 : fetch 172 26 = some (.getfield 143, 11, 2, 0) := rfl
theorem f172_29 : fetch 172 29 = some (.dup_x1, 0, 0, 0) := rfl
theorem f172_30 : fetch 172 30 = some (.iconst 1, 0, 0, 0) := rfl
theorem f172_31 : fetch 172 31 = some (.iadd, 0, 0, 0) := rfl
theorem f172_32 : fetch 172 32 = some (.putfield 143, 11, 2, 0) := rfl
theorem f172_35 : fetch 172 35 = some (.ireturn, 0, 0, 0) := rfl
set_option maxRecDepth 100000 in
set_option maxHeartbeats 4000000 in
theorem p172_ok (d : Nat) (h : HS) (w : WF h) (r : Int32 × HS) (hp : p172 h = some r) : ex (d + 1) 172 (ent 172 [.ref (32)] h) = some (some (.int (r.1)), r.2) := by
  rw [show ent 172 [.ref (32)] h = (0, [some (.ref (32))], [], h) from by  rfl]
  refine ex_weak (ls := [some (.ref (32))]) (le2_ok ⟨Or.inr rfl, trivial⟩) ?_
  unfold p172 at hp
  refine e_aload_n f172_0 rfl ?_
  refine e_getR f172_1 (WF.t w 32 (by decide)) rfl (WF.r (q := 49) w 32 7 (by decide)) ?_
  refine e_aload_n f172_4 rfl ?_
  refine e_getI f172_5 (WF.t w 32 (by decide)) (by decide) ?_
  refine e_new f172_8 ?_
  obtain ⟨h1, e2, hp⟩ := bind_some hp
  try dsimp only at hp
  have e2 := Option.some.inj e2
  have w3 : WF h1 := e2 ▸ (WF.nw (t := 9) (n := 13) (f := fun _ => 0) w)
  rw [e2]
  refine e_dup f172_11 rfl ?_
  refine e_aload_n f172_12 rfl ?_
  refine e_getI f172_13 (WF.t w3 32 (by decide)) (by decide) ?_
  refine e_aload_n f172_16 rfl ?_
  refine e_getI f172_17 (WF.t w3 32 (by decide)) (by decide) ?_
  obtain ⟨r4, hr5, hp⟩ := bind_some hp
  try dsimp only at hp
  refine e_callI (st := [.ref ((h).1), .int (hI (h) (32) 2), .ref (49)]) (o := (h).1) (as := [.int (hI (h1) (32) 2), .int (hI (h1) (32) 0)]) f172_20 (by decide) rfl rfl (Nat.le_of_ble_eq_true rfl) (by rw [← e2]; exact (hT_new _ _ _ _)) (Nat.le_of_ble_eq_true rfl) (p94_ok d (h1) w3 ((h).1) (hI (h1) (32) 2) (hI (h1) (32) 0) (by rw [← e2]; exact (hT_new _ _ _ _)) r4 hr5) ?_
  show ex _ 172 (23, [some (.ref (32))], [.ref ((h).1), .int (hI (h) (32) 2), .ref (49)], r4) = _
  by_cases hg6 : hT (r4) ((h).1) = 9
  rotate_left
  · rw [if_neg hg6] at hp; cases hp
  rw [if_pos hg6] at hp
  by_cases hg7 : (hI (h) (32) 2) < (0 : Int32) ∨ 200 ≤ (hI (h) (32) 2).toNatClampNeg
  · rw [if_pos hg7] at hp; cases hp
  rw [if_neg hg7] at hp
  refine e_aastore f172_23 (WF.t (p94_w (h1) w3 ((h).1) (hI (h1) (32) 2) (hI (h1) (32) 0) (by rw [← e2]; exact (hT_new _ _ _ _))  r4 hr5) 49 (by decide)) (by decide) hg6 (WF.n (p94_w (h1) w3 ((h).1) (hI (h1) (32) 2) (hI (h1) (32) 0) (by rw [← e2]; exact (hT_new _ _ _ _))  r4 hr5) 49 (by decide)) hg7 ?_
  refine e_aload_n f172_24 rfl ?_
  refine e_dup f172_25 rfl ?_
  refine e_getI f172_26 (WF.t (WF.ra (j := (hI (h) (32) 2).toNatClampNeg) (v := some ((h).1)) (p94_w (h1) w3 ((h).1) (hI (h1) (32) 2) (hI (h1) (32) 0) (by rw [← e2]; exact (hT_new _ _ _ _))  r4 hr5) 49 (by decide)) 32 (by decide)) (by decide) ?_
  refine e_dup_x1 f172_29 rfl rfl ?_
  refine e_iconst (v := 1) f172_30 (by decide) ?_
  refine e_iadd f172_31 ?_
  refine e_putI f172_32 (WF.t (WF.ra (j := (hI (h) (32) 2).toNatClampNeg) (v := some ((h).1)) (p94_w (h1) w3 ((h).1) (hI (h1) (32) 2) (hI (h1) (32) 0) (by rw [← e2]; exact (hT_new _ _ _ _))  r4 hr5) 49 (by decide)) 32 (by decide)) rfl ?_
  obtain ⟨h8, e9, hp⟩ := bind_some hp
  try dsimp only at hp
  have e9 := Option.some.inj e9
  have w10 : WF h8 := e9 ▸ (WF.ra (j := (hI (h) (32) 2).toNatClampNeg) (v := some ((h).1)) (p94_w (h1) w3 ((h).1) (hI (h1) (32) 2) (hI (h1) (32) 0) (by rw [← e2]; exact (hT_new _ _ _ _))  r4 hr5) 49 (by decide))
  rw [e9]
  have hp := Option.some.inj hp
  subst hp
  exact e_ireturn f172_35 (Or.inl rfl)
set_option maxRecDepth 100000 in
set_option maxHeartbeats 4000000 in
theorem p172_w (h : HS) (w : WF h) (r : Int32 × HS) (hp : p172 h = some r) : WF r.2 := by
  unfold p172 at hp
  obtain ⟨h1, e2, hp⟩ := bind_some hp
  try dsimp only at hp
  have e2 := Option.some.inj e2
  have w3 : WF h1 := e2 ▸ (WF.nw (t := 9) (n := 13) (f := fun _ => 0) w)
  obtain ⟨r4, hr5, hp⟩ := bind_some hp
  try dsimp only at hp
  by_cases hg6 : hT (r4) ((h).1) = 9
  rotate_left
  · rw [if_neg hg6] at hp; cases hp
  rw [if_pos hg6] at hp
  by_cases hg7 : (hI (h) (32) 2) < (0 : Int32) ∨ 200 ≤ (hI (h) (32) 2).toNatClampNeg
  · rw [if_pos hg7] at hp; cases hp
  rw [if_neg hg7] at hp
  obtain ⟨h8, e9, hp⟩ := bind_some hp
  try dsimp only at hp
  have e9 := Option.some.inj e9
  have w10 : WF h8 := e9 ▸ (WF.ra (j := (hI (h) (32) 2).toNatClampNeg) (v := some ((h).1)) (p94_w (h1) w3 ((h).1) (hI (h1) (32) 2) (hI (h1) (32) 0) (by rw [← e2]; exact (hT_new _ _ _ _))  r4 hr5) 49 (by decide))
  have hp := Option.some.inj hp
  subst hp
  exact (w10)
theorem f122_0 : fetch 122 0 = some (.aload_n 0, 0, 0, 0) := rfl
theorem f122_1 : fetch 122 1 = some (.getfield 143, 11, 2, 0) := rfl
theorem f122_4 : fetch 122 4 = some (.sipush 200, 0, 0, 0) := rfl
theorem f122_7 : fetch 122 7 = some (.if_icmp .ge 14, 21, 0, 0) := rfl
theorem f122_10 : fetch 122 10 = some (.aload_n 0, 0, 0, 0) := rfl
theorem f122_11 : fetch 122 11 = some (.getfield 25, 11, 6, 2) := rfl
theorem f122_14 : fetch 122 14 = some (.iload_n 1, 0, 0, 0) := rfl
theorem f122_15 : fetch 122 15 = some (.invokevirtual 146, 56, 1, 0) := rfl
theorem f122_18 : fetch 122 18 = some (.ifCond .ne 5, 23, 0, 0) := rfl
theorem f122_21 : fetch 122 21 = some (.iconst (-1), 0, 0, 0) := rfl
theorem f122_22 : fetch 122 22 = some (.ireturn, 0, 0, 0) := rfl
theorem f122_23 : fetch 122 23 = some (.aload_n 0, 0, 0, 0) := rfl
theorem f122_24 : fetch 122 24 = some (.invokevirtual 149, 172, 0, 0) := rfl
theorem f122_27 : fetch 122 27 = some (.istore_n 2, 0, 0, 0) := rfl
theorem f122_28 : fetch 122 28 = some (.aload_n 0, 0, 0, 0) := rfl
theorem f122_29 : fetch 122 29 = some (.getfield 31, 11, 7, 2) := rfl
theorem f122_32 : fetch 122 32 = some (.iload_n 2, 0, 0, 0) := rfl
theorem f122_33 : fetch 122 33 = some (.aaload, 0, 0, 0) := rfl
theorem f122_34 : fetch 122 34 = some (.aload_n 0, 0, 0, 0) := rfl
theorem f122_35 : fetch 122 35 = some (.getfield 25, 11, 6, 2) := rfl
theorem f122_38 : fetch 122 38 = some (.iload_n 1, 0, 0, 0) := rfl
theorem f122_39 : fetch 122 39 = some (.iload_n 2, 0, 0, 0) := rfl
theorem f122_40 : fetch 122 40 = some (.invokevirtual 152, 57, 2, 0) := rfl
theorem f122_43 : fetch 122 43 = some (.putfield 155, 9, 4, 0) := rfl
theorem f122_46 : fetch 122 46 = some (.iload_n 2, 0, 0, 0) := rfl
theorem f122_47 : fetch 122 47 = some (.ireturn, 0, 0, 0) := rfl
set_option maxRecDepth 100000 in
set_option maxHeartbeats 4000000 in
theorem p122_ok (d : Nat) (F : Nat) (h : HS) (w : WF h) (a0 : Int32) (r : Int32 × HS) (hp : p122 F h a0 = some r) : ex (d + 3) 122 (ent 122 [.ref (32), .int (a0)] h) = some (some (.int (r.1)), r.2) := by
  rw [show ent 122 [.ref (32), .int (a0)] h = (0, [some (.ref (32)), some (.int (a0)), none], [], h) from by  rfl]
  refine ex_weak (ls := [some (.ref (32)), some (.int (a0)), none]) (le2_ok ⟨Or.inr rfl, Or.inr rfl, Or.inr rfl, trivial⟩) ?_
  unfold p122 at hp
  refine e_aload_n f122_0 rfl ?_
  refine e_getI f122_1 (WF.t w 32 (by decide)) (by decide) ?_
  refine e_sipush (v := 200) f122_4 (by decide) ?_
  by_cases hc1 : (hI (h) (32) 2) < ((200) : Int32)
  · rw [if_pos hc1] at hp
    refine e_icmp_ge_f f122_7 hc1 ?_
    refine e_aload_n f122_10 rfl ?_
    refine e_getR f122_11 (WF.t w 32 (by decide)) rfl (WF.r (q := 39) w 32 6 (by decide)) ?_
    refine e_iload_n f122_14 rfl ?_
    obtain ⟨r2, hr3, hp⟩ := bind_some hp
    try dsimp only at hp
    refine e_callV (st := []) (o := 39) (as := [.int (a0)]) f122_15 (by decide) rfl rfl (Nat.le_of_ble_eq_true rfl) (WF.t w 39 (by decide)) (Nat.le_of_ble_eq_true rfl) (p56_ok d F (h) w (a0) r2 hr3) ?_
    show ex _ 122 (18, [some (.ref (32)), some (.int (a0)), none], [.int (r2)], h) = _
    by_cases hc4 : (r2) = (0 : Int32)
    · rw [if_pos hc4] at hp
      refine e_if_ne_f f122_18 hc4 ?_
      refine e_iconst (v := -1) f122_21 (by decide) ?_
      have hp := Option.some.inj hp
      subst hp
      exact e_ireturn f122_22 (Or.inl rfl)
    · rw [if_neg hc4] at hp
      refine e_if_ne_t f122_18 hc4 ?_
      refine e_aload_n f122_23 rfl ?_
      obtain ⟨r5, hr6, hp⟩ := bind_some hp
      try dsimp only at hp
      refine e_callV (st := []) (o := 32) (as := []) f122_24 (by decide) rfl rfl (Nat.le_of_ble_eq_true rfl) (WF.t w 32 (by decide)) (Nat.le_of_ble_eq_true rfl) (p172_ok (d + 1) (h) w r5 hr6) ?_
      show ex _ 122 (27, [some (.ref (32)), some (.int (a0)), none], [.int (r5.1)], r5.2) = _
      refine e_istore_n (ls2 := [some (.ref (32)), some (.int (a0)), some (.int (r5.1))]) f122_27 (Nat.le_of_ble_eq_true rfl) rfl ?_
      refine e_aload_n f122_28 rfl ?_
      refine e_getR f122_29 (WF.t (p172_w (h) w  r5 hr6) 32 (by decide)) rfl (WF.r (q := 49) (p172_w (h) w  r5 hr6) 32 7 (by decide)) ?_
      refine e_iload_n f122_32 rfl ?_
      by_cases hg7 : (r5.1) < (0 : Int32) ∨ 200 ≤ (r5.1).toNatClampNeg
      · rw [if_pos hg7] at hp; cases hp
      rw [if_neg hg7] at hp
      refine e_aaload f122_33 (Or.inl (WF.t (p172_w (h) w  r5 hr6) 49 (by decide))) (WF.n (p172_w (h) w  r5 hr6) 49 (by decide)) hg7 ?_
      refine e_aload_n f122_34 rfl ?_
      refine e_getR f122_35 (WF.t (p172_w (h) w  r5 hr6) 32 (by decide)) rfl (WF.r (q := 39) (p172_w (h) w  r5 hr6) 32 6 (by decide)) ?_
      refine e_iload_n f122_38 rfl ?_
      refine e_iload_n f122_39 rfl ?_
      obtain ⟨r8, hr9, hp⟩ := bind_some hp
      try dsimp only at hp
      refine e_callV (st := [va_rf (hR (r5.2) (49) (r5.1).toNatClampNeg)]) (o := 39) (as := [.int (a0), .int (r5.1)]) f122_40 (by decide) rfl rfl (Nat.le_of_ble_eq_true rfl) (WF.t (p172_w (h) w  r5 hr6) 39 (by decide)) (Nat.le_of_ble_eq_true rfl) (p57_ok (d + 1) F (r5.2) (p172_w (h) w  r5 hr6) (a0) (r5.1) r8 hr9) ?_
      show ex _ 122 (43, [some (.ref (32)), some (.int (a0)), some (.int (r5.1))], [.int (r8.1), va_rf (hR (r5.2) (49) (r5.1).toNatClampNeg)], r8.2) = _
      obtain ⟨o10, ho11, hp⟩ := bind_some hp
      try dsimp only at hp
      rw [ho11]
      by_cases hg12 : hT (r8.2) (o10) = 9
      rotate_left
      · rw [if_neg hg12] at hp; cases hp
      rw [if_pos hg12] at hp
      refine e_putI f122_43 hg12 rfl ?_
      refine e_iload_n f122_46 rfl ?_
      have hp := Option.some.inj hp
      subst hp
      exact e_ireturn f122_47 (Or.inl rfl)
  · rw [if_neg hc1] at hp
    refine e_icmp_ge_t f122_7 hc1 ?_
    refine e_iconst (v := -1) f122_21 (by decide) ?_
    have hp := Option.some.inj hp
    subst hp
    exact e_ireturn f122_22 (Or.inl rfl)
set_option maxRecDepth 100000 in
set_option maxHeartbeats 4000000 in
theorem p122_w (F : Nat) (h : HS) (w : WF h) (a0 : Int32) (r : Int32 × HS) (hp : p122 F h a0 = some r) : WF r.2 := by
  unfold p122 at hp
  by_cases hc1 : (hI (h) (32) 2) < ((200) : Int32)
  · rw [if_pos hc1] at hp
    obtain ⟨r2, hr3, hp⟩ := bind_some hp
    try dsimp only at hp
    by_cases hc4 : (r2) = (0 : Int32)
    · rw [if_pos hc4] at hp
      have hp := Option.some.inj hp
      subst hp
      exact (w)
    · rw [if_neg hc4] at hp
      obtain ⟨r5, hr6, hp⟩ := bind_some hp
      try dsimp only at hp
      by_cases hg7 : (r5.1) < (0 : Int32) ∨ 200 ≤ (r5.1).toNatClampNeg
      · rw [if_pos hg7] at hp; cases hp
      rw [if_neg hg7] at hp
      obtain ⟨r8, hr9, hp⟩ := bind_some hp
      try dsimp only at hp
      obtain ⟨o10, ho11, hp⟩ := bind_some hp
      try dsimp only at hp
      by_cases hg12 : hT (r8.2) (o10) = 9
      rotate_left
      · rw [if_neg hg12] at hp; cases hp
      rw [if_pos hg12] at hp
      have hp := Option.some.inj hp
      subst hp
      exact ((p57_w F (r5.2) (p172_w (h) w  r5 hr6) (a0) (r5.1)  r8 hr9))
  · rw [if_neg hc1] at hp
    have hp := Option.some.inj hp
    subst hp
    exact (w)
theorem f123_0 : fetch 123 0 = some (.aload_n 0, 0, 0, 0) := rfl
theorem f123_1 : fetch 123 1 = some (.getfield 143, 11, 2, 0) := rfl
theorem f123_4 : fetch 123 4 = some (.sipush 200, 0, 0, 0) := rfl
theorem f123_7 : fetch 123 7 = some (.if_icmp .lt 7, 14, 0, 0) := rfl
theorem f123_10 : fetch 123 10 = some (.iconst (-1), 0, 0, 0) := rfl
theorem f123_11 : fetch 123 11 = some (.goto 7, 18, 0, 0) := rfl
theorem f123_14 : fetch 123 14 = some (.aload_n 0, 0, 0, 0) := rfl
theorem f123_15 : fetch 123 15 = some (.invokevirtual 149, 172, 0, 0) := rfl
theorem f123_18 : fetch 123 18 = some (.ireturn, 0, 0, 0) := rfl
set_option maxRecDepth 100000 in
set_option maxHeartbeats 4000000 in
theorem p123_ok (d : Nat) (h : HS) (w : WF h) (r : Int32 × HS) (hp : p123 h = some r) : ex (d + 2) 123 (ent 123 [.ref (32)] h) = some (some (.int (r.1)), r.2) := by
  rw [show ent 123 [.ref (32)] h = (0, [some (.ref (32))], [], h) from by  rfl]
  refine ex_weak (ls := [some (.ref (32))]) (le2_ok ⟨Or.inr rfl, trivial⟩) ?_
  unfold p123 at hp
  refine e_aload_n f123_0 rfl ?_
  refine e_getI f123_1 (WF.t w 32 (by decide)) (by decide) ?_
  refine e_sipush (v := 200) f123_4 (by decide) ?_
  by_cases hc1 : (hI (h) (32) 2) < ((200) : Int32)
  · rw [if_pos hc1] at hp
    refine e_icmp_lt_t f123_7 hc1 ?_
    refine e_aload_n f123_14 rfl ?_
    obtain ⟨r2, hr3, hp⟩ := bind_some hp
    try dsimp only at hp
    refine e_callV (st := []) (o := 32) (as := []) f123_15 (by decide) rfl rfl (Nat.le_of_ble_eq_true rfl) (WF.t w 32 (by decide)) (Nat.le_of_ble_eq_true rfl) (p172_ok d (h) w r2 hr3) ?_
    show ex _ 123 (18, [some (.ref (32))], [.int (r2.1)], r2.2) = _
    have hp := Option.some.inj hp
    subst hp
    exact e_ireturn f123_18 (Or.inl rfl)
  · rw [if_neg hc1] at hp
    refine e_icmp_lt_f f123_7 hc1 ?_
    refine e_iconst (v := -1) f123_10 (by decide) ?_
    refine e_goto f123_11 ?_
    have hp := Option.some.inj hp
    subst hp
    exact e_ireturn f123_18 (Or.inl rfl)
set_option maxRecDepth 100000 in
set_option maxHeartbeats 4000000 in
theorem p123_w (h : HS) (w : WF h) (r : Int32 × HS) (hp : p123 h = some r) : WF r.2 := by
  unfold p123 at hp
  by_cases hc1 : (hI (h) (32) 2) < ((200) : Int32)
  · rw [if_pos hc1] at hp
    obtain ⟨r2, hr3, hp⟩ := bind_some hp
    try dsimp only at hp
    have hp := Option.some.inj hp
    subst hp
    exact ((p172_w (h) w  r2 hr3))
  · rw [if_neg hc1] at hp
    have hp := Option.some.inj hp
    subst hp
    exact (w)
theorem f170_0 : fetch 170 0 = some (.iload_n 1, 0, 0, 0) := rfl
theorem f170_1 : fetch 170 1 = some (.iconst 0, 0, 0, 0) := rfl
theorem f170_2 : fetch 170 2 = some (.aload_n 0, 0, 0, 0) := rfl
theorem f170_3 : fetch 170 3 = some (.getfield 143, 11, 2, 0) := rfl
theorem f170_6 : fetch 170 6 = some (.iconst 1, 0, 0, 0) := rfl
theorem f170_7 : fetch 170 7 = some (.isub, 0, 0, 0) := rfl
theorem f170_8 : fetch 170 8 = some (.invokestatic 91, 166, 3, 1) := rfl
theorem f170_11 : fetch 170 11 = some (.ifCond .eq 12, 23, 0, 0) := rfl
theorem f170_14 : fetch 170 14 = some (.aload_n 0, 0, 0, 0) := rfl
theorem f170_15 : fetch 170 15 = some (.getfield 31, 11, 7, 2) := rfl
theorem f170_18 : fetch 170 18 = some (.iload_n 1, 0, 0, 0) := rfl
theorem f170_19 : fetch 170 19 = some (.aaload, 0, 0, 0) := rfl
theorem f170_20 : fetch 170 20 = some (.goto 4, 24, 0, 0) := rfl
theorem f170_23 : fetch 170 23 = some (.aconst_null, 0, 0, 0) := rfl
theorem f170_24 : fetch 170 24 = some (.areturn, 0, 0, 0) := rfl
set_option maxRecDepth 100000 in
set_option maxHeartbeats 4000000 in
theorem p170_ok (d : Nat) (h : HS) (w : WF h) (a0 : Int32) (r : Option Nat) (hp : p170 h a0 = some r) : ex (d + 1) 170 (ent 170 [.ref (32), .int (a0)] h) = some (some (va_rf (r)), h) := by
  rw [show ent 170 [.ref (32), .int (a0)] h = (0, [some (.ref (32)), some (.int (a0))], [], h) from by  rfl]
  refine ex_weak (ls := [some (.ref (32)), some (.int (a0))]) (le2_ok ⟨Or.inr rfl, Or.inr rfl, trivial⟩) ?_
  unfold p170 at hp
  refine e_iload_n f170_0 rfl ?_
  refine e_iconst (v := 0) f170_1 (by decide) ?_
  refine e_aload_n f170_2 rfl ?_
  refine e_getI f170_3 (WF.t w 32 (by decide)) (by decide) ?_
  refine e_iconst (v := 1) f170_6 (by decide) ?_
  refine e_isub f170_7 ?_
  obtain ⟨r1, hr2, hp⟩ := bind_some hp
  try dsimp only at hp
  refine e_callS (st := []) (as := [.int (a0), .int (0), .int ((hI (h) (32) 2) - (1))]) f170_8 (by decide) rfl rfl (Nat.le_of_ble_eq_true rfl) (Nat.le_of_ble_eq_true rfl) (p166_ok d (h) w (a0) (0) ((hI (h) (32) 2) - (1)) r1 hr2) ?_
  show ex _ 170 (11, [some (.ref (32)), some (.int (a0))], [.int (r1)], h) = _
  by_cases hc3 : (r1) = (0 : Int32)
  · rw [if_pos hc3] at hp
    refine e_if_eq_t f170_11 hc3 ?_
    refine e_null f170_23 ?_
    have hp := Option.some.inj hp
    subst hp
    exact e_areturn (v := none) f170_24
  · rw [if_neg hc3] at hp
    refine e_if_eq_f f170_11 hc3 ?_
    refine e_aload_n f170_14 rfl ?_
    refine e_getR f170_15 (WF.t w 32 (by decide)) rfl (WF.r (q := 49) w 32 7 (by decide)) ?_
    refine e_iload_n f170_18 rfl ?_
    by_cases hg4 : (a0) < (0 : Int32) ∨ 200 ≤ (a0).toNatClampNeg
    · rw [if_pos hg4] at hp; cases hp
    rw [if_neg hg4] at hp
    refine e_aaload f170_19 (Or.inl (WF.t w 49 (by decide))) (WF.n w 49 (by decide)) hg4 ?_
    refine e_goto f170_20 ?_
    have hp := Option.some.inj hp
    subst hp
    exact e_areturn f170_24
theorem f171_0 : fetch 171 0 = some (.aload_n 0, 0, 0, 0) := rfl
theorem f171_1 : fetch 171 1 = some (.iload_n 1, 0, 0, 0) := rfl
theorem f171_2 : fetch 171 2 = some (.invokevirtual 175, 170, 1, 0) := rfl
theorem f171_5 : fetch 171 5 = some (.astore_n 2, 0, 0, 0) := rfl
theorem f171_6 : fetch 171 6 = some (.aload_n 2, 0, 0, 0) := rfl
theorem f171_7 : fetch 171 7 = some (.ifnull 13, 20, 0, 0) := rfl
theorem f171_10 : fetch 171 10 = some (.aload_n 2, 0, 0, 0) := rfl
theorem f171_11 : fetch 171 11 = some (.getfield 162, 9, 3, 0) := rfl
theorem f171_14 : fetch 171 14 = some (.sipush 4000, 0, 0, 0) := rfl
theorem f171_17 : fetch 171 17 = some (.if_icmp .eq 7, 24, 0, 0) := rfl
theorem f171_20 : fetch 171 20 = some (.aconst_null, 0, 0, 0) := rfl
theorem f171_21 : fetch 171 21 = some (.goto 4, 25, 0, 0) := rfl
theorem f171_24 : fetch 171 24 = some (.aload_n 2, 0, 0, 0) := rfl
theorem f171_25 : fetch 171 25 = some (.areturn, 0, 0, 0) := rfl
set_option maxRecDepth 100000 in
set_option maxHeartbeats 4000000 in
theorem p171_ok (d : Nat) (h : HS) (w : WF h) (a0 : Int32) (r : Option Nat) (hp : p171 h a0 = some r) : ex (d + 2) 171 (ent 171 [.ref (32), .int (a0)] h) = some (some (va_rf (r)), h) := by
  rw [show ent 171 [.ref (32), .int (a0)] h = (0, [some (.ref (32)), some (.int (a0)), none], [], h) from by  rfl]
  refine ex_weak (ls := [some (.ref (32)), some (.int (a0)), none]) (le2_ok ⟨Or.inr rfl, Or.inr rfl, Or.inr rfl, trivial⟩) ?_
  unfold p171 at hp
  refine e_aload_n f171_0 rfl ?_
  refine e_iload_n f171_1 rfl ?_
  obtain ⟨r1, hr2, hp⟩ := bind_some hp
  try dsimp only at hp
  refine e_callV (st := []) (o := 32) (as := [.int (a0)]) f171_2 (by decide) rfl rfl (Nat.le_of_ble_eq_true rfl) (WF.t w 32 (by decide)) (Nat.le_of_ble_eq_true rfl) (p170_ok d (h) w (a0) r1 hr2) ?_
  show ex _ 171 (5, [some (.ref (32)), some (.int (a0)), none], [va_rf (r1)], h) = _
  refine e_qstore_n (ls2 := [some (.ref (32)), some (.int (a0)), some (va_rf (r1))]) f171_5 (Nat.le_of_ble_eq_true rfl) rfl ?_
  refine e_qload_n f171_6 rfl ?_
  by_cases hc3 : (r1) = none
  · rw [if_pos hc3] at hp
    rw [hc3]
    refine e_ifnull_t f171_7 ?_
    refine e_null f171_20 ?_
    refine e_goto f171_21 ?_
    have hp := Option.some.inj hp
    subst hp
    exact e_areturn (v := none) f171_25
  · rw [if_neg hc3] at hp
    obtain ⟨o4, ho5, hp⟩ := bind_some hp
    try dsimp only at hp
    rw [ho5]
    refine e_ifnull_f f171_7 ?_
    refine e_aload_n f171_10 rfl ?_
    by_cases hg6 : hT (h) (o4) = 9
    rotate_left
    · rw [if_neg hg6] at hp; cases hp
    rw [if_pos hg6] at hp
    refine e_getI f171_11 hg6 (by decide) ?_
    refine e_sipush (v := 4000) f171_14 (by decide) ?_
    by_cases hc7 : (hI (h) (o4) 3) = ((4000) : Int32)
    · rw [if_pos hc7] at hp
      refine e_icmp_eq_t f171_17 hc7 ?_
      refine e_aload_n f171_24 rfl ?_
      have hp := Option.some.inj hp
      subst hp
      exact e_areturn (v := some (o4)) f171_25
    · rw [if_neg hc7] at hp
      refine e_icmp_eq_f f171_17 hc7 ?_
      refine e_null f171_20 ?_
      refine e_goto f171_21 ?_
      have hp := Option.some.inj hp
      subst hp
      exact e_areturn (v := none) f171_25
theorem f124_0 : fetch 124 0 = some (.aload_n 0, 0, 0, 0) := rfl
theorem f124_1 : fetch 124 1 = some (.iload_n 1, 0, 0, 0) := rfl
theorem f124_2 : fetch 124 2 = some (.invokevirtual 158, 171, 1, 0) := rfl
theorem f124_5 : fetch 124 5 = some (.astore_n 2, 0, 0, 0) := rfl
theorem f124_6 : fetch 124 6 = some (.aload_n 2, 0, 0, 0) := rfl
theorem f124_7 : fetch 124 7 = some (.ifnonnull 5, 12, 0, 0) := rfl
theorem f124_10 : fetch 124 10 = some (.iconst (-1), 0, 0, 0) := rfl
theorem f124_11 : fetch 124 11 = some (.ireturn, 0, 0, 0) := rfl
theorem f124_12 : fetch 124 12 = some (.aload_n 2, 0, 0, 0) := rfl
theorem f124_13 : fetch 124 13 = some (.aload_n 0, 0, 0, 0) := rfl
theorem f124_14 : fetch 124 14 = some (.getfield 88, 11, 0, 0) := rfl
theorem f124_17 : fetch 124 17 = some (.putfield 162, 9, 3, 0) := rfl
theorem f124_20 : fetch 124 20 = some (.aload_n 0, 0, 0, 0) := rfl
theorem f124_21 : fetch 124 21 = some (.getfield 38, 11, 8, 2) := rfl
theorem f124_24 : fetch 124 24 = some (.iload_n 1, 0, 0, 0) := rfl
theorem f124_25 : fetch 124 25 = some (.aload_n 0, 0, 0, 0) := rfl
theorem f124_26 : fetch 124 26 = some (.getfield 88, 11, 0, 0) := rfl
theorem f124_29 : fetch 124 29 = some (.invokevirtual 165, 9, 2, 0) := rfl
theorem f124_32 : fetch 124 32 = some (.aload_n 0, 0, 0, 0) := rfl
theorem f124_33 : fetch 124 33 = some (.getfield 16, 11, 5, 2) := rfl
theorem f124_36 : fetch 124 36 = some (.iload_n 1, 0, 0, 0) := rfl
theorem f124_37 : fetch 124 37 = some (.invokevirtual 169, 93, 1, 0) := rfl
theorem f124_40 : fetch 124 40 = some (.ireturn, 0, 0, 0) := rfl
set_option maxRecDepth 100000 in
set_option maxHeartbeats 4000000 in
theorem p124_ok (d : Nat) (F : Nat) (h : HS) (w : WF h) (a0 : Int32) (r : Int32 × HS) (hp : p124 F h a0 = some r) : ex (d + 3) 124 (ent 124 [.ref (32), .int (a0)] h) = some (some (.int (r.1)), r.2) := by
  rw [show ent 124 [.ref (32), .int (a0)] h = (0, [some (.ref (32)), some (.int (a0)), none], [], h) from by  rfl]
  refine ex_weak (ls := [some (.ref (32)), some (.int (a0)), none]) (le2_ok ⟨Or.inr rfl, Or.inr rfl, Or.inr rfl, trivial⟩) ?_
  unfold p124 at hp
  refine e_aload_n f124_0 rfl ?_
  refine e_iload_n f124_1 rfl ?_
  obtain ⟨r1, hr2, hp⟩ := bind_some hp
  try dsimp only at hp
  refine e_callV (st := []) (o := 32) (as := [.int (a0)]) f124_2 (by decide) rfl rfl (Nat.le_of_ble_eq_true rfl) (WF.t w 32 (by decide)) (Nat.le_of_ble_eq_true rfl) (p171_ok d (h) w (a0) r1 hr2) ?_
  show ex _ 124 (5, [some (.ref (32)), some (.int (a0)), none], [va_rf (r1)], h) = _
  refine e_qstore_n (ls2 := [some (.ref (32)), some (.int (a0)), some (va_rf (r1))]) f124_5 (Nat.le_of_ble_eq_true rfl) rfl ?_
  refine e_qload_n f124_6 rfl ?_
  by_cases hc3 : (r1) = none
  · rw [if_pos hc3] at hp
    rw [hc3]
    refine e_ifnonnull_f f124_7 ?_
    refine e_iconst (v := -1) f124_10 (by decide) ?_
    have hp := Option.some.inj hp
    subst hp
    exact e_ireturn f124_11 (Or.inl rfl)
  · rw [if_neg hc3] at hp
    obtain ⟨o4, ho5, hp⟩ := bind_some hp
    try dsimp only at hp
    rw [ho5]
    refine e_ifnonnull_t f124_7 ?_
    refine e_aload_n f124_12 rfl ?_
    refine e_aload_n f124_13 rfl ?_
    refine e_getI f124_14 (WF.t w 32 (by decide)) (by decide) ?_
    by_cases hg6 : hT (h) (o4) = 9
    rotate_left
    · rw [if_neg hg6] at hp; cases hp
    rw [if_pos hg6] at hp
    refine e_putI f124_17 hg6 rfl ?_
    refine e_aload_n f124_20 rfl ?_
    refine e_getR f124_21 (WF.t w 32 (by decide)) rfl (WF.r (q := 50) w 32 8 (by decide)) ?_
    refine e_iload_n f124_24 rfl ?_
    refine e_aload_n f124_25 rfl ?_
    refine e_getI f124_26 (WF.t w 32 (by decide)) (by decide) ?_
    obtain ⟨r7, hr8, hp⟩ := bind_some hp
    try dsimp only at hp
    refine e_callV (st := []) (o := 50) (as := [.int (a0), .int (hI (hsI (h) (o4) 3 (hI (h) (32) 0)) (32) 0)]) f124_29 (by decide) rfl rfl (Nat.le_of_ble_eq_true rfl) (WF.t w 50 (by decide)) (Nat.le_of_ble_eq_true rfl) (p9_ok (d + 1) F (hsI (h) (o4) 3 (hI (h) (32) 0)) w (a0) (hI (hsI (h) (o4) 3 (hI (h) (32) 0)) (32) 0) r7 hr8) ?_
    show ex _ 124 (32, [some (.ref (32)), some (.int (a0)), some (.ref (o4))], [], r7) = _
    refine e_aload_n f124_32 rfl ?_
    refine e_getR f124_33 (WF.t (p9_w F (hsI (h) (o4) 3 (hI (h) (32) 0)) w (a0) (hI (hsI (h) (o4) 3 (hI (h) (32) 0)) (32) 0)  r7 hr8) 32 (by decide)) rfl (WF.r (q := 33) (p9_w F (hsI (h) (o4) 3 (hI (h) (32) 0)) w (a0) (hI (hsI (h) (o4) 3 (hI (h) (32) 0)) (32) 0)  r7 hr8) 32 5 (by decide)) ?_
    refine e_iload_n f124_36 rfl ?_
    obtain ⟨r9, hr10, hp⟩ := bind_some hp
    try dsimp only at hp
    refine e_callV (st := []) (o := 33) (as := [.int (a0)]) f124_37 (by decide) rfl rfl (Nat.le_of_ble_eq_true rfl) (WF.t (p9_w F (hsI (h) (o4) 3 (hI (h) (32) 0)) w (a0) (hI (hsI (h) (o4) 3 (hI (h) (32) 0)) (32) 0)  r7 hr8) 33 (by decide)) (Nat.le_of_ble_eq_true rfl) (p93_ok (d + 2) F (r7) (p9_w F (hsI (h) (o4) 3 (hI (h) (32) 0)) w (a0) (hI (hsI (h) (o4) 3 (hI (h) (32) 0)) (32) 0)  r7 hr8) (a0) r9 hr10) ?_
    show ex _ 124 (40, [some (.ref (32)), some (.int (a0)), some (.ref (o4))], [.int (r9.1)], r9.2) = _
    have hp := Option.some.inj hp
    subst hp
    exact e_ireturn f124_40 (Or.inl rfl)
set_option maxRecDepth 100000 in
set_option maxHeartbeats 4000000 in
theorem p124_w (F : Nat) (h : HS) (w : WF h) (a0 : Int32) (r : Int32 × HS) (hp : p124 F h a0 = some r) : WF r.2 := by
  unfold p124 at hp
  obtain ⟨r1, hr2, hp⟩ := bind_some hp
  try dsimp only at hp
  by_cases hc3 : (r1) = none
  · rw [if_pos hc3] at hp
    have hp := Option.some.inj hp
    subst hp
    exact (w)
  · rw [if_neg hc3] at hp
    obtain ⟨o4, ho5, hp⟩ := bind_some hp
    try dsimp only at hp
    by_cases hg6 : hT (h) (o4) = 9
    rotate_left
    · rw [if_neg hg6] at hp; cases hp
    rw [if_pos hg6] at hp
    obtain ⟨r7, hr8, hp⟩ := bind_some hp
    try dsimp only at hp
    obtain ⟨r9, hr10, hp⟩ := bind_some hp
    try dsimp only at hp
    have hp := Option.some.inj hp
    subst hp
    exact ((p93_w F (r7) (p9_w F (hsI (h) (o4) 3 (hI (h) (32) 0)) w (a0) (hI (hsI (h) (o4) 3 (hI (h) (32) 0)) (32) 0)  r7 hr8) (a0)  r9 hr10))
theorem f125_0 : fetch 125 0 = some (.aload_n 0, 0, 0, 0) := rfl
theorem f125_1 : fetch 125 1 = some (.iload_n 1, 0, 0, 0) := rfl
theorem f125_2 : fetch 125 2 = some (.invokevirtual 158, 171, 1, 0) := rfl
theorem f125_5 : fetch 125 5 = some (.astore_n 2, 0, 0, 0) := rfl
theorem f125_6 : fetch 125 6 = some (.aload_n 2, 0, 0, 0) := rfl
theorem f125_7 : fetch 125 7 = some (.ifnull 13, 20, 0, 0) := rfl
theorem f125_10 : fetch 125 10 = some (.aload_n 2, 0, 0, 0) := rfl
theorem f125_11 : fetch 125 11 = some (.getfield 172, 9, 2, 0) := rfl
theorem f125_14 : fetch 125 14 = some (.sipush 4000, 0, 0, 0) := rfl
theorem f125_17 : fetch 125 17 = some (.if_icmp .eq 5, 22, 0, 0) := rfl
theorem f125_20 : fetch 125 20 = some (.iconst 0, 0, 0, 0) := rfl
theorem f125_21 : fetch 125 21 = some (.ireturn, 0, 0, 1) := rfl
theorem f125_22 : fetch 125 22 = some (.aload_n 2, 0, 0, 0) := rfl
theorem f125_23 : fetch 125 23 = some (.aload_n 0, 0, 0, 0) := rfl
theorem f125_24 : fetch 125 24 = some (.getfield 88, 11, 0, 0) := rfl
theorem f125_27 : fetch 125 27 = some (.putfield 172, 9, 2, 0) := rfl
theorem f125_30 : fetch 125 30 = some (.iconst 1, 0, 0, 0) := rfl
theorem f125_31 : fetch 125 31 = some (.ireturn, 0, 0, 1) := rfl
set_option maxRecDepth 100000 in
set_option maxHeartbeats 4000000 in
theorem p125_ok (d : Nat) (h : HS) (w : WF h) (a0 : Int32) (r : Int32 × HS) (hp : p125 h a0 = some r) : ex (d + 3) 125 (ent 125 [.ref (32), .int (a0)] h) = some (some (.int (r.1)), r.2) := by
  rw [show ent 125 [.ref (32), .int (a0)] h = (0, [some (.ref (32)), some (.int (a0)), none], [], h) from by  rfl]
  refine ex_weak (ls := [some (.ref (32)), some (.int (a0)), none]) (le2_ok ⟨Or.inr rfl, Or.inr rfl, Or.inr rfl, trivial⟩) ?_
  unfold p125 at hp
  refine e_aload_n f125_0 rfl ?_
  refine e_iload_n f125_1 rfl ?_
  obtain ⟨r1, hr2, hp⟩ := bind_some hp
  try dsimp only at hp
  refine e_callV (st := []) (o := 32) (as := [.int (a0)]) f125_2 (by decide) rfl rfl (Nat.le_of_ble_eq_true rfl) (WF.t w 32 (by decide)) (Nat.le_of_ble_eq_true rfl) (p171_ok d (h) w (a0) r1 hr2) ?_
  show ex _ 125 (5, [some (.ref (32)), some (.int (a0)), none], [va_rf (r1)], h) = _
  refine e_qstore_n (ls2 := [some (.ref (32)), some (.int (a0)), some (va_rf (r1))]) f125_5 (Nat.le_of_ble_eq_true rfl) rfl ?_
  refine e_qload_n f125_6 rfl ?_
  by_cases hc3 : (r1) = none
  · rw [if_pos hc3] at hp
    rw [hc3]
    refine e_ifnull_t f125_7 ?_
    refine e_iconst (v := 0) f125_20 (by decide) ?_
    have hp := Option.some.inj hp
    subst hp
    exact e_ireturn f125_21 (by decide)
  · rw [if_neg hc3] at hp
    obtain ⟨o4, ho5, hp⟩ := bind_some hp
    try dsimp only at hp
    rw [ho5]
    refine e_ifnull_f f125_7 ?_
    refine e_aload_n f125_10 rfl ?_
    by_cases hg6 : hT (h) (o4) = 9
    rotate_left
    · rw [if_neg hg6] at hp; cases hp
    rw [if_pos hg6] at hp
    refine e_getI f125_11 hg6 (by decide) ?_
    refine e_sipush (v := 4000) f125_14 (by decide) ?_
    by_cases hc7 : (hI (h) (o4) 2) = ((4000) : Int32)
    · rw [if_pos hc7] at hp
      refine e_icmp_eq_t f125_17 hc7 ?_
      refine e_aload_n f125_22 rfl ?_
      refine e_aload_n f125_23 rfl ?_
      refine e_getI f125_24 (WF.t w 32 (by decide)) (by decide) ?_
      refine e_putI f125_27 hg6 rfl ?_
      refine e_iconst (v := 1) f125_30 (by decide) ?_
      have hp := Option.some.inj hp
      subst hp
      exact e_ireturn f125_31 (by decide)
    · rw [if_neg hc7] at hp
      refine e_icmp_eq_f f125_17 hc7 ?_
      refine e_iconst (v := 0) f125_20 (by decide) ?_
      have hp := Option.some.inj hp
      subst hp
      exact e_ireturn f125_21 (by decide)
set_option maxRecDepth 100000 in
set_option maxHeartbeats 4000000 in
theorem p125_w (h : HS) (w : WF h) (a0 : Int32) (r : Int32 × HS) (hp : p125 h a0 = some r) : WF r.2 := by
  unfold p125 at hp
  obtain ⟨r1, hr2, hp⟩ := bind_some hp
  try dsimp only at hp
  by_cases hc3 : (r1) = none
  · rw [if_pos hc3] at hp
    have hp := Option.some.inj hp
    subst hp
    exact (w)
  · rw [if_neg hc3] at hp
    obtain ⟨o4, ho5, hp⟩ := bind_some hp
    try dsimp only at hp
    by_cases hg6 : hT (h) (o4) = 9
    rotate_left
    · rw [if_neg hg6] at hp; cases hp
    rw [if_pos hg6] at hp
    by_cases hc7 : (hI (h) (o4) 2) = ((4000) : Int32)
    · rw [if_pos hc7] at hp
      have hp := Option.some.inj hp
      subst hp
      exact (w)
    · rw [if_neg hc7] at hp
      have hp := Option.some.inj hp
      subst hp
      exact (w)
theorem f168_0 : fetch 168 0 = some (.iload_n 0, 0, 0, 0) := rfl
theorem f168_1 : fetch 168 1 = some (.sipush 4000, 0, 0, 0) := rfl
theorem f168_4 : fetch 168 4 = some (.if_icmp .ne 7, 11, 0, 0) := rfl
theorem f168_7 : fetch 168 7 = some (.iconst (-1), 0, 0, 0) := rfl
theorem f168_8 : fetch 168 8 = some (.goto 4, 12, 0, 0) := rfl
theorem f168_11 : fetch 168 11 = some (.iload_n 0, 0, 0, 0) := rfl
theorem f168_12 : fetch 168 12 = some (.ireturn, 0, 0, 0) := rfl
set_option maxRecDepth 100000 in
set_option maxHeartbeats 4000000 in
theorem p168_ok (d : Nat) (h : HS) (w : WF h) (a0 : Int32) (r : Int32) (hp : p168 h a0 = some r) : ex (d + 0) 168 (ent 168 [.int (a0)] h) = some (some (.int (r)), h) := by
  rw [show ent 168 [.int (a0)] h = (0, [some (.int (a0))], [], h) from by  rfl]
  refine ex_weak (ls := [some (.int (a0))]) (le2_ok ⟨Or.inr rfl, trivial⟩) ?_
  unfold p168 at hp
  refine e_iload_n f168_0 rfl ?_
  refine e_sipush (v := 4000) f168_1 (by decide) ?_
  by_cases hc1 : (a0) = ((4000) : Int32)
  · rw [if_pos hc1] at hp
    refine e_icmp_ne_f f168_4 hc1 ?_
    refine e_iconst (v := -1) f168_7 (by decide) ?_
    refine e_goto f168_8 ?_
    have hp := Option.some.inj hp
    subst hp
    exact e_ireturn f168_12 (Or.inl rfl)
  · rw [if_neg hc1] at hp
    refine e_icmp_ne_t f168_4 hc1 ?_
    refine e_iload_n f168_11 rfl ?_
    have hp := Option.some.inj hp
    subst hp
    exact e_ireturn f168_12 (Or.inl rfl)
theorem f126_0 : fetch 126 0 = some (.aload_n 0, 0, 0, 0) := rfl
theorem f126_1 : fetch 126 1 = some (.iload_n 1, 0, 0, 0) := rfl
theorem f126_2 : fetch 126 2 = some (.invokevirtual 175, 170, 1, 0) := rfl
theorem f126_5 : fetch 126 5 = some (.astore_n 3, 0, 0, 0) := rfl
theorem f126_6 : fetch 126 6 = some (.aload_n 3, 0, 0, 0) := rfl
theorem f126_7 : fetch 126 7 = some (.ifnonnull 5, 12, 0, 0) := rfl
theorem f126_10 : fetch 126 10 = some (.iconst (-1), 0, 0, 0) := rfl
theorem f126_11 : fetch 126 11 = some (.ireturn, 0, 0, 0) := rfl
theorem f126_12 : fetch 126 12 = some (.iload_n 2, 0, 0, 0) := rfl
theorem f126_13 : fetch 126 13 = some (.tableswitch 84 0 6 #[43, 48, 56, 64, 69, 74, 79], 0, 0, 0) := rfl
theorem f126_56 : fetch 126 56 = some (.aload_n 3, 0, 0, 0) := rfl
theorem f126_57 : fetch 126 57 = some (.getfield 178, 9, 1, 0) := rfl
theorem f126_60 : fetch 126 60 = some (.ireturn, 0, 0, 0) := rfl
theorem f126_61 : fetch 126 61 = some (.aload_n 3, 0, 0, 0) := rfl
theorem f126_62 : fetch 126 62 = some (.getfield 172, 9, 2, 0) := rfl
theorem f126_65 : fetch 126 65 = some (.invokestatic 181, 168, 1, 1) := rfl
theorem f126_68 : fetch 126 68 = some (.ireturn, 0, 0, 0) := rfl
theorem f126_69 : fetch 126 69 = some (.aload_n 3, 0, 0, 0) := rfl
theorem f126_70 : fetch 126 70 = some (.getfield 162, 9, 3, 0) := rfl
theorem f126_73 : fetch 126 73 = some (.invokestatic 181, 168, 1, 1) := rfl
theorem f126_76 : fetch 126 76 = some (.ireturn, 0, 0, 0) := rfl
theorem f126_77 : fetch 126 77 = some (.aload_n 3, 0, 0, 0) := rfl
theorem f126_78 : fetch 126 78 = some (.getfield 155, 9, 4, 0) := rfl
theorem f126_81 : fetch 126 81 = some (.ireturn, 0, 0, 0) := rfl
theorem f126_82 : fetch 126 82 = some (.aload_n 3, 0, 0, 0) := rfl
theorem f126_83 : fetch 126 83 = some (.getfield 184, 9, 7, 0) := rfl
theorem f126_86 : fetch 126 86 = some (.ireturn, 0, 0, 0) := rfl
theorem f126_87 : fetch 126 87 = some (.aload_n 3, 0, 0, 0) := rfl
theorem f126_88 : fetch 126 88 = some (.getfield 187, 9, 5, 0) := rfl
theorem f126_91 : fetch 126 91 = some (.ireturn, 0, 0, 0) := rfl
theorem f126_92 : fetch 126 92 = some (.aload_n 3, 0, 0, 0) := rfl
theorem f126_93 : fetch 126 93 = some (.getfield 190, 9, 6, 0) := rfl
theorem f126_96 : fetch 126 96 = some (.ireturn, 0, 0, 0) := rfl
theorem f126_97 : fetch 126 97 = some (.iconst (-1), 0, 0, 0) := rfl
theorem f126_98 : fetch 126 98 = some (.ireturn, 0, 0, 0) := rfl
set_option maxRecDepth 100000 in
set_option maxHeartbeats 4000000 in
theorem p126_ok (d : Nat) (h : HS) (w : WF h) (a0 : Int32) (a1 : Int32) (r : Int32) (hp : p126 h a0 a1 = some r) : ex (d + 2) 126 (ent 126 [.ref (32), .int (a0), .int (a1)] h) = some (some (.int (r)), h) := by
  rw [show ent 126 [.ref (32), .int (a0), .int (a1)] h = (0, [some (.ref (32)), some (.int (a0)), some (.int (a1)), none], [], h) from by  rfl]
  refine ex_weak (ls := [some (.ref (32)), some (.int (a0)), some (.int (a1)), none]) (le2_ok ⟨Or.inr rfl, Or.inr rfl, Or.inr rfl, Or.inr rfl, trivial⟩) ?_
  unfold p126 at hp
  refine e_aload_n f126_0 rfl ?_
  refine e_iload_n f126_1 rfl ?_
  obtain ⟨r1, hr2, hp⟩ := bind_some hp
  try dsimp only at hp
  refine e_callV (st := []) (o := 32) (as := [.int (a0)]) f126_2 (by decide) rfl rfl (Nat.le_of_ble_eq_true rfl) (WF.t w 32 (by decide)) (Nat.le_of_ble_eq_true rfl) (p170_ok d (h) w (a0) r1 hr2) ?_
  show ex _ 126 (5, [some (.ref (32)), some (.int (a0)), some (.int (a1)), none], [va_rf (r1)], h) = _
  refine e_qstore_n (ls2 := [some (.ref (32)), some (.int (a0)), some (.int (a1)), some (va_rf (r1))]) f126_5 (Nat.le_of_ble_eq_true rfl) rfl ?_
  refine e_qload_n f126_6 rfl ?_
  by_cases hc3 : (r1) = none
  · rw [if_pos hc3] at hp
    rw [hc3]
    refine e_ifnonnull_f f126_7 ?_
    refine e_iconst (v := -1) f126_10 (by decide) ?_
    have hp := Option.some.inj hp
    subst hp
    exact e_ireturn f126_11 (Or.inl rfl)
  · rw [if_neg hc3] at hp
    obtain ⟨o4, ho5, hp⟩ := bind_some hp
    try dsimp only at hp
    rw [ho5]
    refine e_ifnonnull_t f126_7 ?_
    refine e_iload_n f126_12 rfl ?_
    by_cases hc6 : (a1) = (0 : Int32)
    · rw [if_pos hc6] at hp
      refine e_sw (t := 56) f126_13 (by rw [hc6]; decide) (by rw [hc6]; decide) ?_
      refine e_aload_n f126_56 rfl ?_
      by_cases hg7 : hT (h) (o4) = 9
      rotate_left
      · rw [if_neg hg7] at hp; cases hp
      rw [if_pos hg7] at hp
      refine e_getI f126_57 hg7 (by decide) ?_
      have hp := Option.some.inj hp
      subst hp
      exact e_ireturn f126_60 (Or.inl rfl)
    rw [if_neg hc6] at hp
    by_cases hc8 : (a1) = (1 : Int32)
    · rw [if_pos hc8] at hp
      refine e_sw (t := 61) f126_13 (by rw [hc8]; decide) (by rw [hc8]; decide) ?_
      refine e_aload_n f126_61 rfl ?_
      by_cases hg9 : hT (h) (o4) = 9
      rotate_left
      · rw [if_neg hg9] at hp; cases hp
      rw [if_pos hg9] at hp
      refine e_getI f126_62 hg9 (by decide) ?_
      obtain ⟨r10, hr11, hp⟩ := bind_some hp
      try dsimp only at hp
      refine e_callS (st := []) (as := [.int (hI (h) (o4) 2)]) f126_65 (by decide) rfl rfl (Nat.le_of_ble_eq_true rfl) (Nat.le_of_ble_eq_true rfl) (p168_ok (d + 1) (h) w (hI (h) (o4) 2) r10 hr11) ?_
      show ex _ 126 (68, [some (.ref (32)), some (.int (a0)), some (.int (a1)), some (.ref (o4))], [.int (r10)], h) = _
      have hp := Option.some.inj hp
      subst hp
      exact e_ireturn f126_68 (Or.inl rfl)
    rw [if_neg hc8] at hp
    by_cases hc12 : (a1) = (2 : Int32)
    · rw [if_pos hc12] at hp
      refine e_sw (t := 69) f126_13 (by rw [hc12]; decide) (by rw [hc12]; decide) ?_
      refine e_aload_n f126_69 rfl ?_
      by_cases hg13 : hT (h) (o4) = 9
      rotate_left
      · rw [if_neg hg13] at hp; cases hp
      rw [if_pos hg13] at hp
      refine e_getI f126_70 hg13 (by decide) ?_
      obtain ⟨r14, hr15, hp⟩ := bind_some hp
      try dsimp only at hp
      refine e_callS (st := []) (as := [.int (hI (h) (o4) 3)]) f126_73 (by decide) rfl rfl (Nat.le_of_ble_eq_true rfl) (Nat.le_of_ble_eq_true rfl) (p168_ok (d + 1) (h) w (hI (h) (o4) 3) r14 hr15) ?_
      show ex _ 126 (76, [some (.ref (32)), some (.int (a0)), some (.int (a1)), some (.ref (o4))], [.int (r14)], h) = _
      have hp := Option.some.inj hp
      subst hp
      exact e_ireturn f126_76 (Or.inl rfl)
    rw [if_neg hc12] at hp
    by_cases hc16 : (a1) = (3 : Int32)
    · rw [if_pos hc16] at hp
      refine e_sw (t := 77) f126_13 (by rw [hc16]; decide) (by rw [hc16]; decide) ?_
      refine e_aload_n f126_77 rfl ?_
      by_cases hg17 : hT (h) (o4) = 9
      rotate_left
      · rw [if_neg hg17] at hp; cases hp
      rw [if_pos hg17] at hp
      refine e_getI f126_78 hg17 (by decide) ?_
      have hp := Option.some.inj hp
      subst hp
      exact e_ireturn f126_81 (Or.inl rfl)
    rw [if_neg hc16] at hp
    by_cases hc18 : (a1) = (4 : Int32)
    · rw [if_pos hc18] at hp
      refine e_sw (t := 82) f126_13 (by rw [hc18]; decide) (by rw [hc18]; decide) ?_
      refine e_aload_n f126_82 rfl ?_
      by_cases hg19 : hT (h) (o4) = 9
      rotate_left
      · rw [if_neg hg19] at hp; cases hp
      rw [if_pos hg19] at hp
      refine e_getI f126_83 hg19 (by decide) ?_
      have hp := Option.some.inj hp
      subst hp
      exact e_ireturn f126_86 (Or.inl rfl)
    rw [if_neg hc18] at hp
    by_cases hc20 : (a1) = (5 : Int32)
    · rw [if_pos hc20] at hp
      refine e_sw (t := 87) f126_13 (by rw [hc20]; decide) (by rw [hc20]; decide) ?_
      refine e_aload_n f126_87 rfl ?_
      by_cases hg21 : hT (h) (o4) = 9
      rotate_left
      · rw [if_neg hg21] at hp; cases hp
      rw [if_pos hg21] at hp
      refine e_getI f126_88 hg21 (by decide) ?_
      have hp := Option.some.inj hp
      subst hp
      exact e_ireturn f126_91 (Or.inl rfl)
    rw [if_neg hc20] at hp
    by_cases hc22 : (a1) = (6 : Int32)
    · rw [if_pos hc22] at hp
      refine e_sw (t := 92) f126_13 (by rw [hc22]; decide) (by rw [hc22]; decide) ?_
      refine e_aload_n f126_92 rfl ?_
      by_cases hg23 : hT (h) (o4) = 9
      rotate_left
      · rw [if_neg hg23] at hp; cases hp
      rw [if_pos hg23] at hp
      refine e_getI f126_93 hg23 (by decide) ?_
      have hp := Option.some.inj hp
      subst hp
      exact e_ireturn f126_96 (Or.inl rfl)
    rw [if_neg hc22] at hp
    have ho24 := sw_out (x := a1) 0 6 (fun j h1 h2 => by
      rcases (show j = 0 ∨ j = 1 ∨ j = 2 ∨ j = 3 ∨ j = 4 ∨ j = 5 ∨ j = 6 by omega) with rfl | rfl | rfl | rfl | rfl | rfl | rfl
      · exact i32_ne hc6 (by decide)
      · exact i32_ne hc8 (by decide)
      · exact i32_ne hc12 (by decide)
      · exact i32_ne hc16 (by decide)
      · exact i32_ne hc18 (by decide)
      · exact i32_ne hc20 (by decide)
      · exact i32_ne hc22 (by decide))
    refine e_sw (t := 97) f126_13 ⟨by rw [swTo, if_pos ho24]; decide, by decide⟩ (by rw [swTo, if_pos ho24]; decide) ?_
    refine e_iconst (v := -1) f126_97 (by decide) ?_
    have hp := Option.some.inj hp
    subst hp
    exact e_ireturn f126_98 (Or.inl rfl)
theorem f127_0 : fetch 127 0 = some (.aload_n 0, 0, 0, 0) := rfl
theorem f127_1 : fetch 127 1 = some (.getfield 38, 11, 8, 2) := rfl
theorem f127_4 : fetch 127 4 = some (.getfield 193, 0, 0, 0) := rfl
theorem f127_7 : fetch 127 7 = some (.bipush 60, 0, 0, 0) := rfl
theorem f127_9 : fetch 127 9 = some (.if_icmp .ge 13, 22, 0, 0) := rfl
theorem f127_12 : fetch 127 12 = some (.iload_n 1, 0, 0, 0) := rfl
theorem f127_13 : fetch 127 13 = some (.iconst (-1), 0, 0, 0) := rfl
theorem f127_14 : fetch 127 14 = some (.bipush 99, 0, 0, 0) := rfl
theorem f127_16 : fetch 127 16 = some (.invokestatic 91, 166, 3, 1) := rfl
theorem f127_19 : fetch 127 19 = some (.ifCond .ne 5, 24, 0, 0) := rfl
theorem f127_22 : fetch 127 22 = some (.iconst (-1), 0, 0, 0) := rfl
theorem f127_23 : fetch 127 23 = some (.ireturn, 0, 0, 0) := rfl
theorem f127_24 : fetch 127 24 = some (.aload_n 0, 0, 0, 0) := rfl
theorem f127_25 : fetch 127 25 = some (.getfield 38, 11, 8, 2) := rfl
theorem f127_28 : fetch 127 28 = some (.dup, 0, 0, 0) := rfl
theorem f127_29 : fetch 127 29 = some (.getfield 193, 0, 0, 0) := rfl
theorem f127_32 : fetch 127 32 = some (.dup_x1, 0, 0, 0) := rfl
theorem f127_33 : fetch 127 33 = some (.iconst 1, 0, 0, 0) := rfl
theorem f127_34 : fetch 127 34 = some (.iadd, 0, 0, 0) := rfl
theorem f127_35 : fetch 127 35 = some (.putfield 193, 0, 0, 0) := rfl
theorem f127_38 : fetch 127 38 = some (.istore_n 2, 0, 0, 0) := rfl
theorem f127_39 : fetch 127 39 = some (.aload_n 0, 0, 0, 0) := rfl
theorem f127_40 : fetch 127 40 = some (.getfield 73, 11, 13, 2) := rfl
theorem f127_43 : fetch 127 43 = some (.iload_n 2, 0, 0, 0) := rfl
theorem f127_44 : fetch 127 44 = some (.iload_n 1, 0, 0, 0) := rfl
theorem f127_45 : fetch 127 45 = some (.invokevirtual 196, 61, 2, 0) := rfl
theorem f127_48 : fetch 127 48 = some (.iload_n 2, 0, 0, 0) := rfl
theorem f127_49 : fetch 127 49 = some (.ireturn, 0, 0, 0) := rfl
set_option maxRecDepth 100000 in
set_option maxHeartbeats 4000000 in
theorem p127_ok (d : Nat) (h : HS) (w : WF h) (a0 : Int32) (r : Int32 × HS) (hp : p127 h a0 = some r) : ex (d + 1) 127 (ent 127 [.ref (32), .int (a0)] h) = some (some (.int (r.1)), r.2) := by
  rw [show ent 127 [.ref (32), .int (a0)] h = (0, [some (.ref (32)), some (.int (a0)), none], [], h) from by  rfl]
  refine ex_weak (ls := [some (.ref (32)), some (.int (a0)), none]) (le2_ok ⟨Or.inr rfl, Or.inr rfl, Or.inr rfl, trivial⟩) ?_
  unfold p127 at hp
  refine e_aload_n f127_0 rfl ?_
  refine e_getR f127_1 (WF.t w 32 (by decide)) rfl (WF.r (q := 50) w 32 8 (by decide)) ?_
  refine e_getI f127_4 (WF.t w 50 (by decide)) (by decide) ?_
  refine e_bipush (v := 60) f127_7 (by decide) ?_
  by_cases hc1 : (hI (h) (50) 0) < ((60) : Int32)
  · rw [if_pos hc1] at hp
    refine e_icmp_ge_f f127_9 hc1 ?_
    refine e_iload_n f127_12 rfl ?_
    refine e_iconst (v := -1) f127_13 (by decide) ?_
    refine e_bipush (v := 99) f127_14 (by decide) ?_
    obtain ⟨r2, hr3, hp⟩ := bind_some hp
    try dsimp only at hp
    refine e_callS (st := []) (as := [.int (a0), .int ((-1)), .int (99)]) f127_16 (by decide) rfl rfl (Nat.le_of_ble_eq_true rfl) (Nat.le_of_ble_eq_true rfl) (p166_ok d (h) w (a0) ((-1)) (99) r2 hr3) ?_
    show ex _ 127 (19, [some (.ref (32)), some (.int (a0)), none], [.int (r2)], h) = _
    by_cases hc4 : (r2) = (0 : Int32)
    · rw [if_pos hc4] at hp
      refine e_if_ne_f f127_19 hc4 ?_
      refine e_iconst (v := -1) f127_22 (by decide) ?_
      have hp := Option.some.inj hp
      subst hp
      exact e_ireturn f127_23 (Or.inl rfl)
    · rw [if_neg hc4] at hp
      refine e_if_ne_t f127_19 hc4 ?_
      refine e_aload_n f127_24 rfl ?_
      refine e_getR f127_25 (WF.t w 32 (by decide)) rfl (WF.r (q := 50) w 32 8 (by decide)) ?_
      refine e_dup f127_28 rfl ?_
      refine e_getI f127_29 (WF.t w 50 (by decide)) (by decide) ?_
      refine e_dup_x1 f127_32 rfl rfl ?_
      refine e_iconst (v := 1) f127_33 (by decide) ?_
      refine e_iadd f127_34 ?_
      refine e_putI f127_35 (WF.t w 50 (by decide)) rfl ?_
      refine e_istore_n (ls2 := [some (.ref (32)), some (.int (a0)), some (.int (hI (h) (50) 0))]) f127_38 (Nat.le_of_ble_eq_true rfl) rfl ?_
      refine e_aload_n f127_39 rfl ?_
      refine e_getR f127_40 (WF.t w 32 (by decide)) rfl (WF.r (q := 68) w 32 13 (by decide)) ?_
      refine e_iload_n f127_43 rfl ?_
      refine e_iload_n f127_44 rfl ?_
      obtain ⟨r5, hr6, hp⟩ := bind_some hp
      try dsimp only at hp
      refine e_callV (st := []) (o := 68) (as := [.int (hI (h) (50) 0), .int (a0)]) f127_45 (by decide) rfl rfl (Nat.le_of_ble_eq_true rfl) (WF.t w 68 (by decide)) (Nat.le_of_ble_eq_true rfl) (p61_ok d (hsI (h) (50) 0 ((hI (h) (50) 0) + (1))) w (hI (h) (50) 0) (a0) r5 hr6) ?_
      show ex _ 127 (48, [some (.ref (32)), some (.int (a0)), some (.int (hI (h) (50) 0))], [], r5) = _
      refine e_iload_n f127_48 rfl ?_
      have hp := Option.some.inj hp
      subst hp
      exact e_ireturn f127_49 (Or.inl rfl)
  · rw [if_neg hc1] at hp
    refine e_icmp_ge_t f127_9 hc1 ?_
    refine e_iconst (v := -1) f127_22 (by decide) ?_
    have hp := Option.some.inj hp
    subst hp
    exact e_ireturn f127_23 (Or.inl rfl)
set_option maxRecDepth 100000 in
set_option maxHeartbeats 4000000 in
theorem p127_w (h : HS) (w : WF h) (a0 : Int32) (r : Int32 × HS) (hp : p127 h a0 = some r) : WF r.2 := by
  unfold p127 at hp
  by_cases hc1 : (hI (h) (50) 0) < ((60) : Int32)
  · rw [if_pos hc1] at hp
    obtain ⟨r2, hr3, hp⟩ := bind_some hp
    try dsimp only at hp
    by_cases hc4 : (r2) = (0 : Int32)
    · rw [if_pos hc4] at hp
      have hp := Option.some.inj hp
      subst hp
      exact (w)
    · rw [if_neg hc4] at hp
      obtain ⟨r5, hr6, hp⟩ := bind_some hp
      try dsimp only at hp
      have hp := Option.some.inj hp
      subst hp
      exact ((p61_w (hsI (h) (50) 0 ((hI (h) (50) 0) + (1))) w (hI (h) (50) 0) (a0)  r5 hr6))
  · rw [if_neg hc1] at hp
    have hp := Option.some.inj hp
    subst hp
    exact (w)
theorem f128_0 : fetch 128 0 = some (.aload_n 0, 0, 0, 0) := rfl
theorem f128_1 : fetch 128 1 = some (.getfield 38, 11, 8, 2) := rfl
theorem f128_4 : fetch 128 4 = some (.getfield 199, 0, 2, 0) := rfl
theorem f128_7 : fetch 128 7 = some (.sipush 400, 0, 0, 0) := rfl
theorem f128_10 : fetch 128 10 = some (.if_icmp .ge 47, 57, 0, 0) := rfl
theorem f128_13 : fetch 128 13 = some (.aload_n 0, 0, 0, 0) := rfl
theorem f128_14 : fetch 128 14 = some (.getfield 38, 11, 8, 2) := rfl
theorem f128_17 : fetch 128 17 = some (.iload_n 1, 0, 0, 0) := rfl
theorem f128_18 : fetch 128 18 = some (.invokevirtual 202, 1, 1, 0) := rfl
theorem f128_21 : fetch 128 21 = some (.ifCond .eq 36, 57, 0, 0) := rfl
theorem f128_24 : fetch 128 24 = some (.iload_n 2, 0, 0, 0) := rfl
theorem f128_25 : fetch 128 25 = some (.iconst 0, 0, 0, 0) := rfl
theorem f128_26 : fetch 128 26 = some (.bipush 99, 0, 0, 0) := rfl
theorem f128_28 : fetch 128 28 = some (.invokestatic 91, 166, 3, 1) := rfl
theorem f128_31 : fetch 128 31 = some (.ifCond .eq 26, 57, 0, 0) := rfl
theorem f128_34 : fetch 128 34 = some (.iload_n 3, 0, 0, 0) := rfl
theorem f128_35 : fetch 128 35 = some (.iconst 0, 0, 0, 0) := rfl
theorem f128_36 : fetch 128 36 = some (.sipush 9999, 0, 0, 0) := rfl
theorem f128_39 : fetch 128 39 = some (.invokestatic 91, 166, 3, 1) := rfl
theorem f128_42 : fetch 128 42 = some (.ifCond .eq 15, 57, 0, 0) := rfl
theorem f128_45 : fetch 128 45 = some (.iload 4, 0, 0, 0) := rfl
theorem f128_47 : fetch 128 47 = some (.iload_n 3, 0, 0, 0) := rfl
theorem f128_48 : fetch 128 48 = some (.sipush 9999, 0, 0, 0) := rfl
theorem f128_51 : fetch 128 51 = some (.invokestatic 91, 166, 3, 1) := rfl
theorem f128_54 : fetch 128 54 = some (.ifCond .ne 5, 59, 0, 0) := rfl
theorem f128_57 : fetch 128 57 = some (.iconst (-1), 0, 0, 0) := rfl
theorem f128_58 : fetch 128 58 = some (.ireturn, 0, 0, 0) := rfl
theorem f128_59 : fetch 128 59 = some (.new 205, 5, 10, 0) := rfl
theorem f128_62 : fetch 128 62 = some (.dup, 0, 0, 0) := rfl
theorem f128_63 : fetch 128 63 = some (.aconst_null, 0, 0, 0) := rfl
theorem f128_64 : fetch 128 64 = some (.aload_n 0, 0, 0, 0) := rfl
theorem f128_65 : fetch 128 65 = some (.getfield 88, 11, 0, 0) := rfl
theorem f128_68 : fetch 128 68 = some (.invokespecial 207, 67, 2, 3) := rfl
theorem f128_71 : fetch 128 71 = some (.astore 5, 0, 0, 0) := rfl
theorem f128_73 : fetch 128 73 = some (.aload 5, 0, 0, 0) := rfl
theorem f128_75 : fetch 128 75 = some (.iload_n 1, 0, 0, 0) := rfl
theorem f128_76 : fetch 128 76 = some (.putfield 210, 5, 4, 0) := rfl
theorem f128_79 : fetch 128 79 = some (.aload 5, 0, 0, 0) := rfl
theorem f128_81 : fetch 128 81 = some (.iload_n 2, 0, 0, 0) := rfl
theorem f128_82 : fetch 128 82 = some (.putfield 213, 5, 6, 0) := rfl
theorem f128_85 : fetch 128 85 = some (.aload 5, 0, 0, 0) := rfl
theorem f128_87 : fetch 128 87 = some (.iload_n 3, 0, 0, 0) := rfl
theorem f128_88 : fetch 128 88 = some (.putfield 216, 5, 8, 0) := rfl
theorem f128_91 : fetch 128 91 = some (.aload 5, 0, 0, 0) := rfl
theorem f128_93 : fetch 128 93 = some (.iload 4, 0, 0, 0) := rfl
theorem f128_95 : fetch 128 95 = some (.putfield 219, 5, 9, 0) := rfl
theorem f128_98 : fetch 128 98 = some (.aload_n 0, 0, 0, 0) := rfl
theorem f128_99 : fetch 128 99 = some (.getfield 38, 11, 8, 2) := rfl
theorem f128_102 : fetch 128 102 = some (.aload 5, 0, 0, 0) := rfl
theorem f128_104 : fetch 128 104 = some (.invokevirtual 222, 6, 1, 0) := rfl
theorem f128_107 : fetch 128 107 = some (.ireturn, 0, 0, 0) := rfl
set_option maxRecDepth 100000 in
set_option maxHeartbeats 4000000 in
theorem p128_ok (d : Nat) (h : HS) (w : WF h) (a0 : Int32) (a1 : Int32) (a2 : Int32) (a3 : Int32) (r : Int32 × HS) (hp : p128 h a0 a1 a2 a3 = some r) : ex (d + 2) 128 (ent 128 [.ref (32), .int (a0), .int (a1), .int (a2), .int (a3)] h) = some (some (.int (r.1)), r.2) := by
  rw [show ent 128 [.ref (32), .int (a0), .int (a1), .int (a2), .int (a3)] h = (0, [some (.ref (32)), some (.int (a0)), some (.int (a1)), some (.int (a2)), some (.int (a3)), none], [], h) from by  rfl]
  refine ex_weak (ls := [some (.ref (32)), some (.int (a0)), some (.int (a1)), some (.int (a2)), some (.int (a3)), none]) (le2_ok ⟨Or.inr rfl, Or.inr rfl, Or.inr rfl, Or.inr rfl, Or.inr rfl, Or.inr rfl, trivial⟩) ?_
  unfold p128 at hp
  refine e_aload_n f128_0 rfl ?_
  refine e_getR f128_1 (WF.t w 32 (by decide)) rfl (WF.r (q := 50) w 32 8 (by decide)) ?_
  refine e_getI f128_4 (WF.t w 50 (by decide)) (by decide) ?_
  refine e_sipush (v := 400) f128_7 (by decide) ?_
  by_cases hc1 : (hI (h) (50) 2) < ((400) : Int32)
  · rw [if_pos hc1] at hp
    refine e_icmp_ge_f f128_10 hc1 ?_
    refine e_aload_n f128_13 rfl ?_
    refine e_getR f128_14 (WF.t w 32 (by decide)) rfl (WF.r (q := 50) w 32 8 (by decide)) ?_
    refine e_iload_n f128_17 rfl ?_
    obtain ⟨r2, hr3, hp⟩ := bind_some hp
    try dsimp only at hp
    refine e_callV (st := []) (o := 50) (as := [.int (a0)]) f128_18 (by decide) rfl rfl (Nat.le_of_ble_eq_true rfl) (WF.t w 50 (by decide)) (Nat.le_of_ble_eq_true rfl) (p1_ok d (h) w (a0) r2 hr3) ?_
    show ex _ 128 (21, [some (.ref (32)), some (.int (a0)), some (.int (a1)), some (.int (a2)), some (.int (a3)), none], [.int (r2)], h) = _
    by_cases hc4 : (r2) = (0 : Int32)
    · rw [if_pos hc4] at hp
      refine e_if_eq_t f128_21 hc4 ?_
      refine e_iconst (v := -1) f128_57 (by decide) ?_
      have hp := Option.some.inj hp
      subst hp
      exact e_ireturn f128_58 (Or.inl rfl)
    · rw [if_neg hc4] at hp
      refine e_if_eq_f f128_21 hc4 ?_
      refine e_iload_n f128_24 rfl ?_
      refine e_iconst (v := 0) f128_25 (by decide) ?_
      refine e_bipush (v := 99) f128_26 (by decide) ?_
      obtain ⟨r5, hr6, hp⟩ := bind_some hp
      try dsimp only at hp
      refine e_callS (st := []) (as := [.int (a1), .int (0), .int (99)]) f128_28 (by decide) rfl rfl (Nat.le_of_ble_eq_true rfl) (Nat.le_of_ble_eq_true rfl) (p166_ok (d + 1) (h) w (a1) (0) (99) r5 hr6) ?_
      show ex _ 128 (31, [some (.ref (32)), some (.int (a0)), some (.int (a1)), some (.int (a2)), some (.int (a3)), none], [.int (r5)], h) = _
      by_cases hc7 : (r5) = (0 : Int32)
      · rw [if_pos hc7] at hp
        refine e_if_eq_t f128_31 hc7 ?_
        refine e_iconst (v := -1) f128_57 (by decide) ?_
        have hp := Option.some.inj hp
        subst hp
        exact e_ireturn f128_58 (Or.inl rfl)
      · rw [if_neg hc7] at hp
        refine e_if_eq_f f128_31 hc7 ?_
        refine e_iload_n f128_34 rfl ?_
        refine e_iconst (v := 0) f128_35 (by decide) ?_
        refine e_sipush (v := 9999) f128_36 (by decide) ?_
        obtain ⟨r8, hr9, hp⟩ := bind_some hp
        try dsimp only at hp
        refine e_callS (st := []) (as := [.int (a2), .int (0), .int (9999)]) f128_39 (by decide) rfl rfl (Nat.le_of_ble_eq_true rfl) (Nat.le_of_ble_eq_true rfl) (p166_ok (d + 1) (h) w (a2) (0) (9999) r8 hr9) ?_
        show ex _ 128 (42, [some (.ref (32)), some (.int (a0)), some (.int (a1)), some (.int (a2)), some (.int (a3)), none], [.int (r8)], h) = _
        by_cases hc10 : (r8) = (0 : Int32)
        · rw [if_pos hc10] at hp
          refine e_if_eq_t f128_42 hc10 ?_
          refine e_iconst (v := -1) f128_57 (by decide) ?_
          have hp := Option.some.inj hp
          subst hp
          exact e_ireturn f128_58 (Or.inl rfl)
        · rw [if_neg hc10] at hp
          refine e_if_eq_f f128_42 hc10 ?_
          refine e_iload f128_45 rfl ?_
          refine e_iload_n f128_47 rfl ?_
          refine e_sipush (v := 9999) f128_48 (by decide) ?_
          obtain ⟨r11, hr12, hp⟩ := bind_some hp
          try dsimp only at hp
          refine e_callS (st := []) (as := [.int (a3), .int (a2), .int (9999)]) f128_51 (by decide) rfl rfl (Nat.le_of_ble_eq_true rfl) (Nat.le_of_ble_eq_true rfl) (p166_ok (d + 1) (h) w (a3) (a2) (9999) r11 hr12) ?_
          show ex _ 128 (54, [some (.ref (32)), some (.int (a0)), some (.int (a1)), some (.int (a2)), some (.int (a3)), none], [.int (r11)], h) = _
          by_cases hc13 : (r11) = (0 : Int32)
          · rw [if_pos hc13] at hp
            refine e_if_ne_f f128_54 hc13 ?_
            refine e_iconst (v := -1) f128_57 (by decide) ?_
            have hp := Option.some.inj hp
            subst hp
            exact e_ireturn f128_58 (Or.inl rfl)
          · rw [if_neg hc13] at hp
            refine e_if_ne_t f128_54 hc13 ?_
            refine e_new f128_59 ?_
            obtain ⟨h14, e15, hp⟩ := bind_some hp
            try dsimp only at hp
            have e15 := Option.some.inj e15
            have w16 : WF h14 := e15 ▸ (WF.nw (t := 5) (n := 10) (f := fun _ => 0) w)
            rw [e15]
            refine e_dup f128_62 rfl ?_
            refine e_null f128_63 ?_
            refine e_aload_n f128_64 rfl ?_
            refine e_getI f128_65 (WF.t w16 32 (by decide)) (by decide) ?_
            obtain ⟨r17, hr18, hp⟩ := bind_some hp
            try dsimp only at hp
            refine e_callI (st := [.ref ((h).1)]) (o := (h).1) (as := [.null, .int (hI (h14) (32) 0)]) f128_68 (by decide) rfl rfl (Nat.le_of_ble_eq_true rfl) (by rw [← e15]; exact (hT_new _ _ _ _)) (Nat.le_of_ble_eq_true rfl) (p67_ok (d + 1) (h14) w16 ((h).1) (none) (hI (h14) (32) 0) (by rw [← e15]; exact (hT_new _ _ _ _)) r17 hr18) ?_
            show ex _ 128 (71, [some (.ref (32)), some (.int (a0)), some (.int (a1)), some (.int (a2)), some (.int (a3)), none], [.ref ((h).1)], r17) = _
            refine e_astore (ls2 := [some (.ref (32)), some (.int (a0)), some (.int (a1)), some (.int (a2)), some (.int (a3)), some (.ref ((h).1))]) f128_71 (Nat.le_of_ble_eq_true rfl) rfl ?_
            refine e_aload f128_73 rfl ?_
            refine e_iload_n f128_75 rfl ?_
            by_cases hg19 : hT (r17) ((h).1) = 5
            rotate_left
            · rw [if_neg hg19] at hp; cases hp
            rw [if_pos hg19] at hp
            refine e_putI f128_76 hg19 rfl ?_
            refine e_aload f128_79 rfl ?_
            refine e_iload_n f128_81 rfl ?_
            refine e_putI f128_82 hg19 rfl ?_
            refine e_aload f128_85 rfl ?_
            refine e_iload_n f128_87 rfl ?_
            refine e_putI f128_88 hg19 rfl ?_
            refine e_aload f128_91 rfl ?_
            refine e_iload f128_93 rfl ?_
            refine e_putI f128_95 hg19 rfl ?_
            refine e_aload_n f128_98 rfl ?_
            refine e_getR f128_99 (WF.t (p67_w (h14) w16 ((h).1) (none) (hI (h14) (32) 0) (by rw [← e15]; exact (hT_new _ _ _ _))  r17 hr18) 32 (by decide)) rfl (WF.r (q := 50) (p67_w (h14) w16 ((h).1) (none) (hI (h14) (32) 0) (by rw [← e15]; exact (hT_new _ _ _ _))  r17 hr18) 32 8 (by decide)) ?_
            refine e_aload f128_102 rfl ?_
            obtain ⟨r20, hr21, hp⟩ := bind_some hp
            try dsimp only at hp
            refine e_callV (st := []) (o := 50) (as := [.ref ((h).1)]) f128_104 (by decide) rfl rfl (Nat.le_of_ble_eq_true rfl) (WF.t (p67_w (h14) w16 ((h).1) (none) (hI (h14) (32) 0) (by rw [← e15]; exact (hT_new _ _ _ _))  r17 hr18) 50 (by decide)) (Nat.le_of_ble_eq_true rfl) (p6_ok (d + 1) (hsI (hsI (hsI (hsI (r17) ((h).1) 4 (a0)) ((h).1) 6 (a1)) ((h).1) 8 (a2)) ((h).1) 9 (a3)) (p67_w (h14) w16 ((h).1) (none) (hI (h14) (32) 0) (by rw [← e15]; exact (hT_new _ _ _ _))  r17 hr18) (some ((h).1)) r20 hr21) ?_
            show ex _ 128 (107, [some (.ref (32)), some (.int (a0)), some (.int (a1)), some (.int (a2)), some (.int (a3)), some (.ref ((h).1))], [.int (r20.1)], r20.2) = _
            have hp := Option.some.inj hp
            subst hp
            exact e_ireturn f128_107 (Or.inl rfl)
  · rw [if_neg hc1] at hp
    refine e_icmp_ge_t f128_10 hc1 ?_
    refine e_iconst (v := -1) f128_57 (by decide) ?_
    have hp := Option.some.inj hp
    subst hp
    exact e_ireturn f128_58 (Or.inl rfl)
set_option maxRecDepth 100000 in
set_option maxHeartbeats 4000000 in
theorem p128_w (h : HS) (w : WF h) (a0 : Int32) (a1 : Int32) (a2 : Int32) (a3 : Int32) (r : Int32 × HS) (hp : p128 h a0 a1 a2 a3 = some r) : WF r.2 := by
  unfold p128 at hp
  by_cases hc1 : (hI (h) (50) 2) < ((400) : Int32)
  · rw [if_pos hc1] at hp
    obtain ⟨r2, hr3, hp⟩ := bind_some hp
    try dsimp only at hp
    by_cases hc4 : (r2) = (0 : Int32)
    · rw [if_pos hc4] at hp
      have hp := Option.some.inj hp
      subst hp
      exact (w)
    · rw [if_neg hc4] at hp
      obtain ⟨r5, hr6, hp⟩ := bind_some hp
      try dsimp only at hp
      by_cases hc7 : (r5) = (0 : Int32)
      · rw [if_pos hc7] at hp
        have hp := Option.some.inj hp
        subst hp
        exact (w)
      · rw [if_neg hc7] at hp
        obtain ⟨r8, hr9, hp⟩ := bind_some hp
        try dsimp only at hp
        by_cases hc10 : (r8) = (0 : Int32)
        · rw [if_pos hc10] at hp
          have hp := Option.some.inj hp
          subst hp
          exact (w)
        · rw [if_neg hc10] at hp
          obtain ⟨r11, hr12, hp⟩ := bind_some hp
          try dsimp only at hp
          by_cases hc13 : (r11) = (0 : Int32)
          · rw [if_pos hc13] at hp
            have hp := Option.some.inj hp
            subst hp
            exact (w)
          · rw [if_neg hc13] at hp
            obtain ⟨h14, e15, hp⟩ := bind_some hp
            try dsimp only at hp
            have e15 := Option.some.inj e15
            have w16 : WF h14 := e15 ▸ (WF.nw (t := 5) (n := 10) (f := fun _ => 0) w)
            obtain ⟨r17, hr18, hp⟩ := bind_some hp
            try dsimp only at hp
            by_cases hg19 : hT (r17) ((h).1) = 5
            rotate_left
            · rw [if_neg hg19] at hp; cases hp
            rw [if_pos hg19] at hp
            obtain ⟨r20, hr21, hp⟩ := bind_some hp
            try dsimp only at hp
            have hp := Option.some.inj hp
            subst hp
            exact ((p6_w (hsI (hsI (hsI (hsI (r17) ((h).1) 4 (a0)) ((h).1) 6 (a1)) ((h).1) 8 (a2)) ((h).1) 9 (a3)) (p67_w (h14) w16 ((h).1) (none) (hI (h14) (32) 0) (by rw [← e15]; exact (hT_new _ _ _ _))  r17 hr18) (some ((h).1))  r20 hr21))
  · rw [if_neg hc1] at hp
    have hp := Option.some.inj hp
    subst hp
    exact (w)
theorem f129_0 : fetch 129 0 = some (.aload_n 0, 0, 0, 0) := rfl
theorem f129_1 : fetch 129 1 = some (.getfield 38, 11, 8, 2) := rfl
theorem f129_4 : fetch 129 4 = some (.iload_n 1, 0, 0, 0) := rfl
theorem f129_5 : fetch 129 5 = some (.invokevirtual 226, 3, 1, 0) := rfl
theorem f129_8 : fetch 129 8 = some (.ifCond .eq 26, 34, 0, 0) := rfl
theorem f129_11 : fetch 129 11 = some (.aload_n 0, 0, 0, 0) := rfl
theorem f129_12 : fetch 129 12 = some (.getfield 38, 11, 8, 2) := rfl
theorem f129_15 : fetch 129 15 = some (.getfield 229, 0, 7, 2) := rfl
theorem f129_18 : fetch 129 18 = some (.iload_n 1, 0, 0, 0) := rfl
theorem f129_19 : fetch 129 19 = some (.aaload, 0, 0, 0) := rfl
theorem f129_20 : fetch 129 20 = some (.aload_n 0, 0, 0, 0) := rfl
theorem f129_21 : fetch 129 21 = some (.getfield 88, 11, 0, 0) := rfl
theorem f129_24 : fetch 129 24 = some (.invokevirtual 233, 68, 1, 0) := rfl
theorem f129_27 : fetch 129 27 = some (.ifCond .eq 7, 34, 0, 0) := rfl
theorem f129_30 : fetch 129 30 = some (.iconst 1, 0, 0, 0) := rfl
theorem f129_31 : fetch 129 31 = some (.goto 4, 35, 0, 0) := rfl
theorem f129_34 : fetch 129 34 = some (.iconst 0, 0, 0, 0) := rfl
theorem f129_35 : fetch 129 35 = some (.ireturn, 0, 0, 1) := rfl
set_option maxRecDepth 100000 in
set_option maxHeartbeats 4000000 in
theorem p129_ok (d : Nat) (h : HS) (w : WF h) (a0 : Int32) (r : Int32 × HS) (hp : p129 h a0 = some r) : ex (d + 2) 129 (ent 129 [.ref (32), .int (a0)] h) = some (some (.int (r.1)), r.2) := by
  rw [show ent 129 [.ref (32), .int (a0)] h = (0, [some (.ref (32)), some (.int (a0))], [], h) from by  rfl]
  refine ex_weak (ls := [some (.ref (32)), some (.int (a0))]) (le2_ok ⟨Or.inr rfl, Or.inr rfl, trivial⟩) ?_
  unfold p129 at hp
  refine e_aload_n f129_0 rfl ?_
  refine e_getR f129_1 (WF.t w 32 (by decide)) rfl (WF.r (q := 50) w 32 8 (by decide)) ?_
  refine e_iload_n f129_4 rfl ?_
  obtain ⟨r1, hr2, hp⟩ := bind_some hp
  try dsimp only at hp
  refine e_callV (st := []) (o := 50) (as := [.int (a0)]) f129_5 (by decide) rfl rfl (Nat.le_of_ble_eq_true rfl) (WF.t w 50 (by decide)) (Nat.le_of_ble_eq_true rfl) (p3_ok d (h) w (a0) r1 hr2) ?_
  show ex _ 129 (8, [some (.ref (32)), some (.int (a0))], [.int (r1)], h) = _
  by_cases hc3 : (r1) = (0 : Int32)
  · rw [if_pos hc3] at hp
    refine e_if_eq_t f129_8 hc3 ?_
    refine e_iconst (v := 0) f129_34 (by decide) ?_
    have hp := Option.some.inj hp
    subst hp
    exact e_ireturn f129_35 (by decide)
  · rw [if_neg hc3] at hp
    refine e_if_eq_f f129_8 hc3 ?_
    refine e_aload_n f129_11 rfl ?_
    refine e_getR f129_12 (WF.t w 32 (by decide)) rfl (WF.r (q := 50) w 32 8 (by decide)) ?_
    refine e_getR f129_15 (WF.t w 50 (by decide)) rfl (WF.r (q := 53) w 50 7 (by decide)) ?_
    refine e_iload_n f129_18 rfl ?_
    by_cases hg4 : (a0) < (0 : Int32) ∨ 400 ≤ (a0).toNatClampNeg
    · rw [if_pos hg4] at hp; cases hp
    rw [if_neg hg4] at hp
    refine e_aaload f129_19 (Or.inr (Or.inr (Or.inr (WF.t w 53 (by decide))))) (WF.n w 53 (by decide)) hg4 ?_
    refine e_aload_n f129_20 rfl ?_
    refine e_getI f129_21 (WF.t w 32 (by decide)) (by decide) ?_
    obtain ⟨o5, ho6, hp⟩ := bind_some hp
    try dsimp only at hp
    rw [ho6]
    by_cases hg7 : hT (h) (o5) = 5
    rotate_left
    · rw [if_neg hg7] at hp; cases hp
    rw [if_pos hg7] at hp
    obtain ⟨r8, hr9, hp⟩ := bind_some hp
    try dsimp only at hp
    refine e_callV (st := []) (o := o5) (as := [.int (hI (h) (32) 0)]) f129_24 (by decide) rfl rfl (Nat.le_of_ble_eq_true rfl) hg7 (Nat.le_of_ble_eq_true rfl) (p68_ok (d + 1) (h) w (o5) (hI (h) (32) 0) hg7 r8 hr9) ?_
    show ex _ 129 (27, [some (.ref (32)), some (.int (a0))], [.int (r8.1)], r8.2) = _
    by_cases hc10 : (r8.1) = (0 : Int32)
    · rw [if_pos hc10] at hp
      refine e_if_eq_t f129_27 hc10 ?_
      refine e_iconst (v := 0) f129_34 (by decide) ?_
      have hp := Option.some.inj hp
      subst hp
      exact e_ireturn f129_35 (by decide)
    · rw [if_neg hc10] at hp
      refine e_if_eq_f f129_27 hc10 ?_
      refine e_iconst (v := 1) f129_30 (by decide) ?_
      refine e_goto f129_31 ?_
      have hp := Option.some.inj hp
      subst hp
      exact e_ireturn f129_35 (by decide)
set_option maxRecDepth 100000 in
set_option maxHeartbeats 4000000 in
theorem p129_w (h : HS) (w : WF h) (a0 : Int32) (r : Int32 × HS) (hp : p129 h a0 = some r) : WF r.2 := by
  unfold p129 at hp
  obtain ⟨r1, hr2, hp⟩ := bind_some hp
  try dsimp only at hp
  by_cases hc3 : (r1) = (0 : Int32)
  · rw [if_pos hc3] at hp
    have hp := Option.some.inj hp
    subst hp
    exact (w)
  · rw [if_neg hc3] at hp
    by_cases hg4 : (a0) < (0 : Int32) ∨ 400 ≤ (a0).toNatClampNeg
    · rw [if_pos hg4] at hp; cases hp
    rw [if_neg hg4] at hp
    obtain ⟨o5, ho6, hp⟩ := bind_some hp
    try dsimp only at hp
    by_cases hg7 : hT (h) (o5) = 5
    rotate_left
    · rw [if_neg hg7] at hp; cases hp
    rw [if_pos hg7] at hp
    obtain ⟨r8, hr9, hp⟩ := bind_some hp
    try dsimp only at hp
    by_cases hc10 : (r8.1) = (0 : Int32)
    · rw [if_pos hc10] at hp
      have hp := Option.some.inj hp
      subst hp
      exact ((p68_w (h) w (o5) (hI (h) (32) 0) hg7  r8 hr9))
    · rw [if_neg hc10] at hp
      have hp := Option.some.inj hp
      subst hp
      exact ((p68_w (h) w (o5) (hI (h) (32) 0) hg7  r8 hr9))
theorem f130_0 : fetch 130 0 = some (.aload_n 0, 0, 0, 0) := rfl
theorem f130_1 : fetch 130 1 = some (.getfield 38, 11, 8, 2) := rfl
theorem f130_4 : fetch 130 4 = some (.iload_n 1, 0, 0, 0) := rfl
theorem f130_5 : fetch 130 5 = some (.invokevirtual 236, 5, 1, 0) := rfl
theorem f130_8 : fetch 130 8 = some (.ireturn, 0, 0, 0) := rfl
set_option maxRecDepth 100000 in
set_option maxHeartbeats 4000000 in
theorem p130_ok (d : Nat) (h : HS) (w : WF h) (a0 : Int32) (r : Int32 × HS) (hp : p130 h a0 = some r) : ex (d + 2) 130 (ent 130 [.ref (32), .int (a0)] h) = some (some (.int (r.1)), r.2) := by
  rw [show ent 130 [.ref (32), .int (a0)] h = (0, [some (.ref (32)), some (.int (a0))], [], h) from by  rfl]
  refine ex_weak (ls := [some (.ref (32)), some (.int (a0))]) (le2_ok ⟨Or.inr rfl, Or.inr rfl, trivial⟩) ?_
  unfold p130 at hp
  refine e_aload_n f130_0 rfl ?_
  refine e_getR f130_1 (WF.t w 32 (by decide)) rfl (WF.r (q := 50) w 32 8 (by decide)) ?_
  refine e_iload_n f130_4 rfl ?_
  obtain ⟨r1, hr2, hp⟩ := bind_some hp
  try dsimp only at hp
  refine e_callV (st := []) (o := 50) (as := [.int (a0)]) f130_5 (by decide) rfl rfl (Nat.le_of_ble_eq_true rfl) (WF.t w 50 (by decide)) (Nat.le_of_ble_eq_true rfl) (p5_ok d (h) w (a0) r1 hr2) ?_
  show ex _ 130 (8, [some (.ref (32)), some (.int (a0))], [.int (r1.1)], r1.2) = _
  have hp := Option.some.inj hp
  subst hp
  exact e_ireturn f130_8 (Or.inl rfl)
set_option maxRecDepth 100000 in
set_option maxHeartbeats 4000000 in
theorem p130_w (h : HS) (w : WF h) (a0 : Int32) (r : Int32 × HS) (hp : p130 h a0 = some r) : WF r.2 := by
  unfold p130 at hp
  obtain ⟨r1, hr2, hp⟩ := bind_some hp
  try dsimp only at hp
  have hp := Option.some.inj hp
  subst hp
  exact ((p5_w (h) w (a0)  r1 hr2))
theorem f131_0 : fetch 131 0 = some (.aload_n 0, 0, 0, 0) := rfl
theorem f131_1 : fetch 131 1 = some (.iload_n 1, 0, 0, 0) := rfl
theorem f131_2 : fetch 131 2 = some (.invokevirtual 158, 171, 1, 0) := rfl
theorem f131_5 : fetch 131 5 = some (.astore 8, 0, 0, 0) := rfl
theorem f131_7 : fetch 131 7 = some (.aload 8, 0, 0, 0) := rfl
theorem f131_9 : fetch 131 9 = some (.ifnull 38, 47, 0, 0) := rfl
theorem f131_12 : fetch 131 12 = some (.aload_n 0, 0, 0, 0) := rfl
theorem f131_13 : fetch 131 13 = some (.getfield 38, 11, 8, 2) := rfl
theorem f131_16 : fetch 131 16 = some (.getfield 239, 0, 3, 0) := rfl
theorem f131_19 : fetch 131 19 = some (.sipush 200, 0, 0, 0) := rfl
theorem f131_22 : fetch 131 22 = some (.if_icmp .ge 25, 47, 0, 0) := rfl
theorem f131_25 : fetch 131 25 = some (.aload_n 0, 0, 0, 0) := rfl
theorem f131_26 : fetch 131 26 = some (.getfield 38, 11, 8, 2) := rfl
theorem f131_29 : fetch 131 29 = some (.iload_n 2, 0, 0, 0) := rfl
theorem f131_30 : fetch 131 30 = some (.invokevirtual 242, 2, 1, 0) := rfl
theorem f131_33 : fetch 131 33 = some (.ifCond .eq 14, 47, 0, 0) := rfl
theorem f131_36 : fetch 131 36 = some (.aload_n 0, 0, 0, 0) := rfl
theorem f131_37 : fetch 131 37 = some (.getfield 38, 11, 8, 2) := rfl
theorem f131_40 : fetch 131 40 = some (.iload_n 3, 0, 0, 0) := rfl
theorem f131_41 : fetch 131 41 = some (.invokevirtual 202, 1, 1, 0) := rfl
theorem f131_44 : fetch 131 44 = some (.ifCond .ne 5, 49, 0, 0) := rfl
theorem f131_47 : fetch 131 47 = some (.iconst (-1), 0, 0, 0) := rfl
theorem f131_48 : fetch 131 48 = some (.ireturn, 0, 0, 0) := rfl
theorem f131_49 : fetch 131 49 = some (.iload 4, 0, 0, 0) := rfl
theorem f131_51 : fetch 131 51 = some (.iconst 0, 0, 0, 0) := rfl
theorem f131_52 : fetch 131 52 = some (.bipush 31, 0, 0, 0) := rfl
theorem f131_54 : fetch 131 54 = some (.invokestatic 91, 166, 3, 1) := rfl
theorem f131_57 : fetch 131 57 = some (.ifCond .eq 39, 96, 0, 0) := rfl
theorem f131_60 : fetch 131 60 = some (.iload 5, 0, 0, 0) := rfl
theorem f131_62 : fetch 131 62 = some (.iconst 0, 0, 0, 0) := rfl
theorem f131_63 : fetch 131 63 = some (.bipush 99, 0, 0, 0) := rfl
theorem f131_65 : fetch 131 65 = some (.invokestatic 91, 166, 3, 1) := rfl
theorem f131_68 : fetch 131 68 = some (.ifCond .eq 28, 96, 0, 0) := rfl
theorem f131_71 : fetch 131 71 = some (.iload 6, 0, 0, 0) := rfl
theorem f131_73 : fetch 131 73 = some (.iconst 0, 0, 0, 0) := rfl
theorem f131_74 : fetch 131 74 = some (.sipush 9999, 0, 0, 0) := rfl
theorem f131_77 : fetch 131 77 = some (.invokestatic 91, 166, 3, 1) := rfl
theorem f131_80 : fetch 131 80 = some (.ifCond .eq 16, 96, 0, 0) := rfl
theorem f131_83 : fetch 131 83 = some (.iload 7, 0, 0, 0) := rfl
theorem f131_85 : fetch 131 85 = some (.iload 6, 0, 0, 0) := rfl
theorem f131_87 : fetch 131 87 = some (.sipush 9999, 0, 0, 0) := rfl
theorem f131_90 : fetch 131 90 = some (.invokestatic 91, 166, 3, 1) := rfl
theorem f131_93 : fetch 131 93 = some (.ifCond .ne 5, 98, 0, 0) := rfl
theorem f131_96 : fetch 131 96 = some (.iconst (-1), 0, 0, 0) := rfl
theorem f131_97 : fetch 131 97 = some (.ireturn, 0, 0, 0) := rfl
theorem f131_98 : fetch 131 98 = some (.new 205, 5, 10, 0) := rfl
theorem f131_101 : fetch 131 101 = some (.dup, 0, 0, 0) := rfl
theorem f131_102 : fetch 131 102 = some (.aload 8, 0, 0, 0) := rfl
theorem f131_104 : fetch 131 104 = some (.aload_n 0, 0, 0, 0) := rfl
theorem f131_105 : fetch 131 105 = some (.getfield 88, 11, 0, 0) := rfl
theorem f131_108 : fetch 131 108 = some (.invokespecial 207, 67, 2, 3) := rfl
theorem f131_111 : fetch 131 111 = some (.astore 9, 0, 0, 0) := rfl
theorem f131_113 : fetch 131 113 = some (.aload 9, 0, 0, 0) := rfl
theorem f131_115 : fetch 131 115 = some (.iload_n 2, 0, 0, 0) := rfl
theorem f131_116 : fetch 131 116 = some (.putfield 245, 5, 3, 0) := rfl
theorem f131_119 : fetch 131 119 = some (.aload 9, 0, 0, 0) := rfl
theorem f131_121 : fetch 131 121 = some (.iload_n 3, 0, 0, 0) := rfl
theorem f131_122 : fetch 131 122 = some (.putfield 210, 5, 4, 0) := rfl
theorem f131_125 : fetch 131 125 = some (.aload 9, 0, 0, 0) := rfl
theorem f131_127 : fetch 131 127 = some (.iload 4, 0, 0, 0) := rfl
theorem f131_129 : fetch 131 129 = some (.putfield 248, 5, 5, 0) := rfl
theorem f131_132 : fetch 131 132 = some (.aload 9, 0, 0, 0) := rfl
theorem f131_134 : fetch 131 134 = some (.iload 5, 0, 0, 0) := rfl
theorem f131_136 : fetch 131 136 = some (.putfield 213, 5, 6, 0) := rfl
theorem f131_139 : fetch 131 139 = some (.aload 9, 0, 0, 0) := rfl
theorem f131_141 : fetch 131 141 = some (.iload 6, 0, 0, 0) := rfl
theorem f131_143 : fetch 131 143 = some (.putfield 216, 5, 8, 0) := rfl
theorem f131_146 : fetch 131 146 = some (.aload 9, 0, 0, 0) := rfl
theorem f131_148 : fetch 131 148 = some (.iload 7, 0, 0, 0) := rfl
theorem f131_150 : fetch 131 150 = some (.putfield 219, 5, 9, 0) := rfl
theorem f131_153 : fetch 131 153 = some (.aload 8, 0, 0, 0) := rfl
theorem f131_155 : fetch 131 155 = some (.dup, 0, 0, 0) := rfl
theorem f131_156 : fetch 131 156 = some (.getfield 187, 9, 5, 0) := rfl
theorem f131_159 : fetch 131 159 = some (.iconst 1, 0, 0, 0) := rfl
theorem f131_160 : fetch 131 160 = some (.iadd, 0, 0, 0) := rfl
theorem f131_161 : fetch 131 161 = some (.putfield 187, 9, 5, 0) := rfl
theorem f131_164 : fetch 131 164 = some (.aload_n 0, 0, 0, 0) := rfl
theorem f131_165 : fetch 131 165 = some (.getfield 38, 11, 8, 2) := rfl
theorem f131_168 : fetch 131 168 = some (.aload 9, 0, 0, 0) := rfl
theorem f131_170 : fetch 131 170 = some (.invokevirtual 251, 7, 1, 0) := rfl
theorem f131_173 : fetch 131 173 = some (.ireturn, 0, 0, 0) := rfl
set_option maxRecDepth 100000 in
set_option maxHeartbeats 4000000 in
theorem p131_ok (d : Nat) (h : HS) (w : WF h) (a0 : Int32) (a1 : Int32) (a2 : Int32) (a3 : Int32) (a4 : Int32) (a5 : Int32) (a6 : Int32) (r : Int32 × HS) (hp : p131 h a0 a1 a2 a3 a4 a5 a6 = some r) : ex (d + 3) 131 (ent 131 [.ref (32), .int (a0), .int (a1), .int (a2), .int (a3), .int (a4), .int (a5), .int (a6)] h) = some (some (.int (r.1)), r.2) := by
  rw [show ent 131 [.ref (32), .int (a0), .int (a1), .int (a2), .int (a3), .int (a4), .int (a5), .int (a6)] h = (0, [some (.ref (32)), some (.int (a0)), some (.int (a1)), some (.int (a2)), some (.int (a3)), some (.int (a4)), some (.int (a5)), some (.int (a6)), none, none], [], h) from by  rfl]
  refine ex_weak (ls := [some (.ref (32)), some (.int (a0)), some (.int (a1)), some (.int (a2)), some (.int (a3)), some (.int (a4)), some (.int (a5)), some (.int (a6)), none, none]) (le2_ok ⟨Or.inr rfl, Or.inr rfl, Or.inr rfl, Or.inr rfl, Or.inr rfl, Or.inr rfl, Or.inr rfl, Or.inr rfl, Or.inr rfl, Or.inr rfl, trivial⟩) ?_
  unfold p131 at hp
  refine e_aload_n f131_0 rfl ?_
  refine e_iload_n f131_1 rfl ?_
  obtain ⟨r1, hr2, hp⟩ := bind_some hp
  try dsimp only at hp
  refine e_callV (st := []) (o := 32) (as := [.int (a0)]) f131_2 (by decide) rfl rfl (Nat.le_of_ble_eq_true rfl) (WF.t w 32 (by decide)) (Nat.le_of_ble_eq_true rfl) (p171_ok d (h) w (a0) r1 hr2) ?_
  show ex _ 131 (5, [some (.ref (32)), some (.int (a0)), some (.int (a1)), some (.int (a2)), some (.int (a3)), some (.int (a4)), some (.int (a5)), some (.int (a6)), none, none], [va_rf (r1)], h) = _
  refine e_qstore (ls2 := [some (.ref (32)), some (.int (a0)), some (.int (a1)), some (.int (a2)), some (.int (a3)), some (.int (a4)), some (.int (a5)), some (.int (a6)), some (va_rf (r1)), none]) f131_5 (Nat.le_of_ble_eq_true rfl) rfl ?_
  refine e_qload f131_7 rfl ?_
  by_cases hc3 : (r1) = none
  · rw [if_pos hc3] at hp
    rw [hc3]
    refine e_ifnull_t f131_9 ?_
    refine e_iconst (v := -1) f131_47 (by decide) ?_
    have hp := Option.some.inj hp
    subst hp
    exact e_ireturn f131_48 (Or.inl rfl)
  · rw [if_neg hc3] at hp
    obtain ⟨o4, ho5, hp⟩ := bind_some hp
    try dsimp only at hp
    rw [ho5]
    refine e_ifnull_f f131_9 ?_
    refine e_aload_n f131_12 rfl ?_
    refine e_getR f131_13 (WF.t w 32 (by decide)) rfl (WF.r (q := 50) w 32 8 (by decide)) ?_
    refine e_getI f131_16 (WF.t w 50 (by decide)) (by decide) ?_
    refine e_sipush (v := 200) f131_19 (by decide) ?_
    by_cases hc6 : (hI (h) (50) 3) < ((200) : Int32)
    · rw [if_pos hc6] at hp
      refine e_icmp_ge_f f131_22 hc6 ?_
      refine e_aload_n f131_25 rfl ?_
      refine e_getR f131_26 (WF.t w 32 (by decide)) rfl (WF.r (q := 50) w 32 8 (by decide)) ?_
      refine e_iload_n f131_29 rfl ?_
      obtain ⟨r7, hr8, hp⟩ := bind_some hp
      try dsimp only at hp
      refine e_callV (st := []) (o := 50) (as := [.int (a1)]) f131_30 (by decide) rfl rfl (Nat.le_of_ble_eq_true rfl) (WF.t w 50 (by decide)) (Nat.le_of_ble_eq_true rfl) (p2_ok (d + 1) (h) w (a1) r7 hr8) ?_
      show ex _ 131 (33, [some (.ref (32)), some (.int (a0)), some (.int (a1)), some (.int (a2)), some (.int (a3)), some (.int (a4)), some (.int (a5)), some (.int (a6)), some (.ref (o4)), none], [.int (r7)], h) = _
      by_cases hc9 : (r7) = (0 : Int32)
      · rw [if_pos hc9] at hp
        refine e_if_eq_t f131_33 hc9 ?_
        refine e_iconst (v := -1) f131_47 (by decide) ?_
        have hp := Option.some.inj hp
        subst hp
        exact e_ireturn f131_48 (Or.inl rfl)
      · rw [if_neg hc9] at hp
        refine e_if_eq_f f131_33 hc9 ?_
        refine e_aload_n f131_36 rfl ?_
        refine e_getR f131_37 (WF.t w 32 (by decide)) rfl (WF.r (q := 50) w 32 8 (by decide)) ?_
        refine e_iload_n f131_40 rfl ?_
        obtain ⟨r10, hr11, hp⟩ := bind_some hp
        try dsimp only at hp
        refine e_callV (st := []) (o := 50) (as := [.int (a2)]) f131_41 (by decide) rfl rfl (Nat.le_of_ble_eq_true rfl) (WF.t w 50 (by decide)) (Nat.le_of_ble_eq_true rfl) (p1_ok (d + 1) (h) w (a2) r10 hr11) ?_
        show ex _ 131 (44, [some (.ref (32)), some (.int (a0)), some (.int (a1)), some (.int (a2)), some (.int (a3)), some (.int (a4)), some (.int (a5)), some (.int (a6)), some (.ref (o4)), none], [.int (r10)], h) = _
        by_cases hc12 : (r10) = (0 : Int32)
        · rw [if_pos hc12] at hp
          refine e_if_ne_f f131_44 hc12 ?_
          refine e_iconst (v := -1) f131_47 (by decide) ?_
          have hp := Option.some.inj hp
          subst hp
          exact e_ireturn f131_48 (Or.inl rfl)
        · rw [if_neg hc12] at hp
          refine e_if_ne_t f131_44 hc12 ?_
          refine e_iload f131_49 rfl ?_
          refine e_iconst (v := 0) f131_51 (by decide) ?_
          refine e_bipush (v := 31) f131_52 (by decide) ?_
          obtain ⟨r13, hr14, hp⟩ := bind_some hp
          try dsimp only at hp
          refine e_callS (st := []) (as := [.int (a3), .int (0), .int (31)]) f131_54 (by decide) rfl rfl (Nat.le_of_ble_eq_true rfl) (Nat.le_of_ble_eq_true rfl) (p166_ok (d + 2) (h) w (a3) (0) (31) r13 hr14) ?_
          show ex _ 131 (57, [some (.ref (32)), some (.int (a0)), some (.int (a1)), some (.int (a2)), some (.int (a3)), some (.int (a4)), some (.int (a5)), some (.int (a6)), some (.ref (o4)), none], [.int (r13)], h) = _
          by_cases hc15 : (r13) = (0 : Int32)
          · rw [if_pos hc15] at hp
            refine e_if_eq_t f131_57 hc15 ?_
            refine e_iconst (v := -1) f131_96 (by decide) ?_
            have hp := Option.some.inj hp
            subst hp
            exact e_ireturn f131_97 (Or.inl rfl)
          · rw [if_neg hc15] at hp
            refine e_if_eq_f f131_57 hc15 ?_
            refine e_iload f131_60 rfl ?_
            refine e_iconst (v := 0) f131_62 (by decide) ?_
            refine e_bipush (v := 99) f131_63 (by decide) ?_
            obtain ⟨r16, hr17, hp⟩ := bind_some hp
            try dsimp only at hp
            refine e_callS (st := []) (as := [.int (a4), .int (0), .int (99)]) f131_65 (by decide) rfl rfl (Nat.le_of_ble_eq_true rfl) (Nat.le_of_ble_eq_true rfl) (p166_ok (d + 2) (h) w (a4) (0) (99) r16 hr17) ?_
            show ex _ 131 (68, [some (.ref (32)), some (.int (a0)), some (.int (a1)), some (.int (a2)), some (.int (a3)), some (.int (a4)), some (.int (a5)), some (.int (a6)), some (.ref (o4)), none], [.int (r16)], h) = _
            by_cases hc18 : (r16) = (0 : Int32)
            · rw [if_pos hc18] at hp
              refine e_if_eq_t f131_68 hc18 ?_
              refine e_iconst (v := -1) f131_96 (by decide) ?_
              have hp := Option.some.inj hp
              subst hp
              exact e_ireturn f131_97 (Or.inl rfl)
            · rw [if_neg hc18] at hp
              refine e_if_eq_f f131_68 hc18 ?_
              refine e_iload f131_71 rfl ?_
              refine e_iconst (v := 0) f131_73 (by decide) ?_
              refine e_sipush (v := 9999) f131_74 (by decide) ?_
              obtain ⟨r19, hr20, hp⟩ := bind_some hp
              try dsimp only at hp
              refine e_callS (st := []) (as := [.int (a5), .int (0), .int (9999)]) f131_77 (by decide) rfl rfl (Nat.le_of_ble_eq_true rfl) (Nat.le_of_ble_eq_true rfl) (p166_ok (d + 2) (h) w (a5) (0) (9999) r19 hr20) ?_
              show ex _ 131 (80, [some (.ref (32)), some (.int (a0)), some (.int (a1)), some (.int (a2)), some (.int (a3)), some (.int (a4)), some (.int (a5)), some (.int (a6)), some (.ref (o4)), none], [.int (r19)], h) = _
              by_cases hc21 : (r19) = (0 : Int32)
              · rw [if_pos hc21] at hp
                refine e_if_eq_t f131_80 hc21 ?_
                refine e_iconst (v := -1) f131_96 (by decide) ?_
                have hp := Option.some.inj hp
                subst hp
                exact e_ireturn f131_97 (Or.inl rfl)
              · rw [if_neg hc21] at hp
                refine e_if_eq_f f131_80 hc21 ?_
                refine e_iload f131_83 rfl ?_
                refine e_iload f131_85 rfl ?_
                refine e_sipush (v := 9999) f131_87 (by decide) ?_
                obtain ⟨r22, hr23, hp⟩ := bind_some hp
                try dsimp only at hp
                refine e_callS (st := []) (as := [.int (a6), .int (a5), .int (9999)]) f131_90 (by decide) rfl rfl (Nat.le_of_ble_eq_true rfl) (Nat.le_of_ble_eq_true rfl) (p166_ok (d + 2) (h) w (a6) (a5) (9999) r22 hr23) ?_
                show ex _ 131 (93, [some (.ref (32)), some (.int (a0)), some (.int (a1)), some (.int (a2)), some (.int (a3)), some (.int (a4)), some (.int (a5)), some (.int (a6)), some (.ref (o4)), none], [.int (r22)], h) = _
                by_cases hc24 : (r22) = (0 : Int32)
                · rw [if_pos hc24] at hp
                  refine e_if_ne_f f131_93 hc24 ?_
                  refine e_iconst (v := -1) f131_96 (by decide) ?_
                  have hp := Option.some.inj hp
                  subst hp
                  exact e_ireturn f131_97 (Or.inl rfl)
                · rw [if_neg hc24] at hp
                  refine e_if_ne_t f131_93 hc24 ?_
                  refine e_new f131_98 ?_
                  obtain ⟨h25, e26, hp⟩ := bind_some hp
                  try dsimp only at hp
                  have e26 := Option.some.inj e26
                  have w27 : WF h25 := e26 ▸ (WF.nw (t := 5) (n := 10) (f := fun _ => 0) w)
                  rw [e26]
                  refine e_dup f131_101 rfl ?_
                  refine e_aload f131_102 rfl ?_
                  refine e_aload_n f131_104 rfl ?_
                  refine e_getI f131_105 (WF.t w27 32 (by decide)) (by decide) ?_
                  obtain ⟨r28, hr29, hp⟩ := bind_some hp
                  try dsimp only at hp
                  refine e_callI (st := [.ref ((h).1)]) (o := (h).1) (as := [.ref (o4), .int (hI (h25) (32) 0)]) f131_108 (by decide) rfl rfl (Nat.le_of_ble_eq_true rfl) (by rw [← e26]; exact (hT_new _ _ _ _)) (Nat.le_of_ble_eq_true rfl) (p67_ok (d + 2) (h25) w27 ((h).1) (some (o4)) (hI (h25) (32) 0) (by rw [← e26]; exact (hT_new _ _ _ _)) r28 hr29) ?_
                  show ex _ 131 (111, [some (.ref (32)), some (.int (a0)), some (.int (a1)), some (.int (a2)), some (.int (a3)), some (.int (a4)), some (.int (a5)), some (.int (a6)), some (.ref (o4)), none], [.ref ((h).1)], r28) = _
                  refine e_astore (ls2 := [some (.ref (32)), some (.int (a0)), some (.int (a1)), some (.int (a2)), some (.int (a3)), some (.int (a4)), some (.int (a5)), some (.int (a6)), some (.ref (o4)), some (.ref ((h).1))]) f131_111 (Nat.le_of_ble_eq_true rfl) rfl ?_
                  refine e_aload f131_113 rfl ?_
                  refine e_iload_n f131_115 rfl ?_
                  by_cases hg30 : hT (r28) ((h).1) = 5
                  rotate_left
                  · rw [if_neg hg30] at hp; cases hp
                  rw [if_pos hg30] at hp
                  refine e_putI f131_116 hg30 rfl ?_
                  refine e_aload f131_119 rfl ?_
                  refine e_iload_n f131_121 rfl ?_
                  refine e_putI f131_122 hg30 rfl ?_
                  refine e_aload f131_125 rfl ?_
                  refine e_iload f131_127 rfl ?_
                  refine e_putI f131_129 hg30 rfl ?_
                  refine e_aload f131_132 rfl ?_
                  refine e_iload f131_134 rfl ?_
                  refine e_putI f131_136 hg30 rfl ?_
                  refine e_aload f131_139 rfl ?_
                  refine e_iload f131_141 rfl ?_
                  refine e_putI f131_143 hg30 rfl ?_
                  obtain ⟨h31, e32, hp⟩ := bind_some hp
                  try dsimp only at hp
                  have e32 := Option.some.inj e32
                  have w33 : WF h31 := e32 ▸ (p67_w (h25) w27 ((h).1) (some (o4)) (hI (h25) (32) 0) (by rw [← e26]; exact (hT_new _ _ _ _))  r28 hr29)
                  rw [e32]
                  refine e_aload f131_146 rfl ?_
                  refine e_iload f131_148 rfl ?_
                  refine e_putI f131_150 (by rw [← e32]; exact hg30) rfl ?_
                  refine e_aload f131_153 rfl ?_
                  refine e_dup f131_155 rfl ?_
                  by_cases hg34 : hT (hsI (h31) ((h).1) 9 (a6)) (o4) = 9
                  rotate_left
                  · rw [if_neg hg34] at hp; cases hp
                  rw [if_pos hg34] at hp
                  refine e_getI f131_156 hg34 (by decide) ?_
                  refine e_iconst (v := 1) f131_159 (by decide) ?_
                  refine e_iadd f131_160 ?_
                  refine e_putI f131_161 hg34 rfl ?_
                  refine e_aload_n f131_164 rfl ?_
                  refine e_getR f131_165 (WF.t w33 32 (by decide)) rfl (WF.r (q := 50) w33 32 8 (by decide)) ?_
                  refine e_aload f131_168 rfl ?_
                  obtain ⟨r35, hr36, hp⟩ := bind_some hp
                  try dsimp only at hp
                  refine e_callV (st := []) (o := 50) (as := [.ref ((h).1)]) f131_170 (by decide) rfl rfl (Nat.le_of_ble_eq_true rfl) (WF.t w33 50 (by decide)) (Nat.le_of_ble_eq_true rfl) (p7_ok (d + 2) (hsI (hsI (h31) ((h).1) 9 (a6)) (o4) 5 ((hI (hsI (h31) ((h).1) 9 (a6)) (o4) 5) + (1))) w33 (some ((h).1)) r35 hr36) ?_
                  show ex _ 131 (173, [some (.ref (32)), some (.int (a0)), some (.int (a1)), some (.int (a2)), some (.int (a3)), some (.int (a4)), some (.int (a5)), some (.int (a6)), some (.ref (o4)), some (.ref ((h).1))], [.int (r35.1)], r35.2) = _
                  have hp := Option.some.inj hp
                  subst hp
                  exact e_ireturn f131_173 (Or.inl rfl)
    · rw [if_neg hc6] at hp
      refine e_icmp_ge_t f131_22 hc6 ?_
      refine e_iconst (v := -1) f131_47 (by decide) ?_
      have hp := Option.some.inj hp
      subst hp
      exact e_ireturn f131_48 (Or.inl rfl)
set_option maxRecDepth 100000 in
set_option maxHeartbeats 4000000 in
theorem p131_w (h : HS) (w : WF h) (a0 : Int32) (a1 : Int32) (a2 : Int32) (a3 : Int32) (a4 : Int32) (a5 : Int32) (a6 : Int32) (r : Int32 × HS) (hp : p131 h a0 a1 a2 a3 a4 a5 a6 = some r) : WF r.2 := by
  unfold p131 at hp
  obtain ⟨r1, hr2, hp⟩ := bind_some hp
  try dsimp only at hp
  by_cases hc3 : (r1) = none
  · rw [if_pos hc3] at hp
    have hp := Option.some.inj hp
    subst hp
    exact (w)
  · rw [if_neg hc3] at hp
    obtain ⟨o4, ho5, hp⟩ := bind_some hp
    try dsimp only at hp
    by_cases hc6 : (hI (h) (50) 3) < ((200) : Int32)
    · rw [if_pos hc6] at hp
      obtain ⟨r7, hr8, hp⟩ := bind_some hp
      try dsimp only at hp
      by_cases hc9 : (r7) = (0 : Int32)
      · rw [if_pos hc9] at hp
        have hp := Option.some.inj hp
        subst hp
        exact (w)
      · rw [if_neg hc9] at hp
        obtain ⟨r10, hr11, hp⟩ := bind_some hp
        try dsimp only at hp
        by_cases hc12 : (r10) = (0 : Int32)
        · rw [if_pos hc12] at hp
          have hp := Option.some.inj hp
          subst hp
          exact (w)
        · rw [if_neg hc12] at hp
          obtain ⟨r13, hr14, hp⟩ := bind_some hp
          try dsimp only at hp
          by_cases hc15 : (r13) = (0 : Int32)
          · rw [if_pos hc15] at hp
            have hp := Option.some.inj hp
            subst hp
            exact (w)
          · rw [if_neg hc15] at hp
            obtain ⟨r16, hr17, hp⟩ := bind_some hp
            try dsimp only at hp
            by_cases hc18 : (r16) = (0 : Int32)
            · rw [if_pos hc18] at hp
              have hp := Option.some.inj hp
              subst hp
              exact (w)
            · rw [if_neg hc18] at hp
              obtain ⟨r19, hr20, hp⟩ := bind_some hp
              try dsimp only at hp
              by_cases hc21 : (r19) = (0 : Int32)
              · rw [if_pos hc21] at hp
                have hp := Option.some.inj hp
                subst hp
                exact (w)
              · rw [if_neg hc21] at hp
                obtain ⟨r22, hr23, hp⟩ := bind_some hp
                try dsimp only at hp
                by_cases hc24 : (r22) = (0 : Int32)
                · rw [if_pos hc24] at hp
                  have hp := Option.some.inj hp
                  subst hp
                  exact (w)
                · rw [if_neg hc24] at hp
                  obtain ⟨h25, e26, hp⟩ := bind_some hp
                  try dsimp only at hp
                  have e26 := Option.some.inj e26
                  have w27 : WF h25 := e26 ▸ (WF.nw (t := 5) (n := 10) (f := fun _ => 0) w)
                  obtain ⟨r28, hr29, hp⟩ := bind_some hp
                  try dsimp only at hp
                  by_cases hg30 : hT (r28) ((h).1) = 5
                  rotate_left
                  · rw [if_neg hg30] at hp; cases hp
                  rw [if_pos hg30] at hp
                  obtain ⟨h31, e32, hp⟩ := bind_some hp
                  try dsimp only at hp
                  have e32 := Option.some.inj e32
                  have w33 : WF h31 := e32 ▸ (p67_w (h25) w27 ((h).1) (some (o4)) (hI (h25) (32) 0) (by rw [← e26]; exact (hT_new _ _ _ _))  r28 hr29)
                  by_cases hg34 : hT (hsI (h31) ((h).1) 9 (a6)) (o4) = 9
                  rotate_left
                  · rw [if_neg hg34] at hp; cases hp
                  rw [if_pos hg34] at hp
                  obtain ⟨r35, hr36, hp⟩ := bind_some hp
                  try dsimp only at hp
                  have hp := Option.some.inj hp
                  subst hp
                  exact ((p7_w (hsI (hsI (h31) ((h).1) 9 (a6)) (o4) 5 ((hI (hsI (h31) ((h).1) 9 (a6)) (o4) 5) + (1))) w33 (some ((h).1))  r35 hr36))
    · rw [if_neg hc6] at hp
      have hp := Option.some.inj hp
      subst hp
      exact (w)
theorem f132_0 : fetch 132 0 = some (.aload_n 0, 0, 0, 0) := rfl
theorem f132_1 : fetch 132 1 = some (.getfield 38, 11, 8, 2) := rfl
theorem f132_4 : fetch 132 4 = some (.iload_n 1, 0, 0, 0) := rfl
theorem f132_5 : fetch 132 5 = some (.invokevirtual 254, 4, 1, 0) := rfl
theorem f132_8 : fetch 132 8 = some (.ifCond .eq 26, 34, 0, 0) := rfl
theorem f132_11 : fetch 132 11 = some (.aload_n 0, 0, 0, 0) := rfl
theorem f132_12 : fetch 132 12 = some (.getfield 38, 11, 8, 2) := rfl
theorem f132_15 : fetch 132 15 = some (.getfield 257, 0, 8, 2) := rfl
theorem f132_18 : fetch 132 18 = some (.iload_n 1, 0, 0, 0) := rfl
theorem f132_19 : fetch 132 19 = some (.aaload, 0, 0, 0) := rfl
theorem f132_20 : fetch 132 20 = some (.aload_n 0, 0, 0, 0) := rfl
theorem f132_21 : fetch 132 21 = some (.getfield 88, 11, 0, 0) := rfl
theorem f132_24 : fetch 132 24 = some (.invokevirtual 233, 68, 1, 0) := rfl
theorem f132_27 : fetch 132 27 = some (.ifCond .eq 7, 34, 0, 0) := rfl
theorem f132_30 : fetch 132 30 = some (.iconst 1, 0, 0, 0) := rfl
theorem f132_31 : fetch 132 31 = some (.goto 4, 35, 0, 0) := rfl
theorem f132_34 : fetch 132 34 = some (.iconst 0, 0, 0, 0) := rfl
theorem f132_35 : fetch 132 35 = some (.ireturn, 0, 0, 1) := rfl
set_option maxRecDepth 100000 in
set_option maxHeartbeats 4000000 in
theorem p132_ok (d : Nat) (h : HS) (w : WF h) (a0 : Int32) (r : Int32 × HS) (hp : p132 h a0 = some r) : ex (d + 2) 132 (ent 132 [.ref (32), .int (a0)] h) = some (some (.int (r.1)), r.2) := by
  rw [show ent 132 [.ref (32), .int (a0)] h = (0, [some (.ref (32)), some (.int (a0))], [], h) from by  rfl]
  refine ex_weak (ls := [some (.ref (32)), some (.int (a0))]) (le2_ok ⟨Or.inr rfl, Or.inr rfl, trivial⟩) ?_
  unfold p132 at hp
  refine e_aload_n f132_0 rfl ?_
  refine e_getR f132_1 (WF.t w 32 (by decide)) rfl (WF.r (q := 50) w 32 8 (by decide)) ?_
  refine e_iload_n f132_4 rfl ?_
  obtain ⟨r1, hr2, hp⟩ := bind_some hp
  try dsimp only at hp
  refine e_callV (st := []) (o := 50) (as := [.int (a0)]) f132_5 (by decide) rfl rfl (Nat.le_of_ble_eq_true rfl) (WF.t w 50 (by decide)) (Nat.le_of_ble_eq_true rfl) (p4_ok d (h) w (a0) r1 hr2) ?_
  show ex _ 132 (8, [some (.ref (32)), some (.int (a0))], [.int (r1)], h) = _
  by_cases hc3 : (r1) = (0 : Int32)
  · rw [if_pos hc3] at hp
    refine e_if_eq_t f132_8 hc3 ?_
    refine e_iconst (v := 0) f132_34 (by decide) ?_
    have hp := Option.some.inj hp
    subst hp
    exact e_ireturn f132_35 (by decide)
  · rw [if_neg hc3] at hp
    refine e_if_eq_f f132_8 hc3 ?_
    refine e_aload_n f132_11 rfl ?_
    refine e_getR f132_12 (WF.t w 32 (by decide)) rfl (WF.r (q := 50) w 32 8 (by decide)) ?_
    refine e_getR f132_15 (WF.t w 50 (by decide)) rfl (WF.r (q := 54) w 50 8 (by decide)) ?_
    refine e_iload_n f132_18 rfl ?_
    by_cases hg4 : (a0) < (0 : Int32) ∨ 200 ≤ (a0).toNatClampNeg
    · rw [if_pos hg4] at hp; cases hp
    rw [if_neg hg4] at hp
    refine e_aaload f132_19 (Or.inr (Or.inr (Or.inr (WF.t w 54 (by decide))))) (WF.n w 54 (by decide)) hg4 ?_
    refine e_aload_n f132_20 rfl ?_
    refine e_getI f132_21 (WF.t w 32 (by decide)) (by decide) ?_
    obtain ⟨o5, ho6, hp⟩ := bind_some hp
    try dsimp only at hp
    rw [ho6]
    by_cases hg7 : hT (h) (o5) = 5
    rotate_left
    · rw [if_neg hg7] at hp; cases hp
    rw [if_pos hg7] at hp
    obtain ⟨r8, hr9, hp⟩ := bind_some hp
    try dsimp only at hp
    refine e_callV (st := []) (o := o5) (as := [.int (hI (h) (32) 0)]) f132_24 (by decide) rfl rfl (Nat.le_of_ble_eq_true rfl) hg7 (Nat.le_of_ble_eq_true rfl) (p68_ok (d + 1) (h) w (o5) (hI (h) (32) 0) hg7 r8 hr9) ?_
    show ex _ 132 (27, [some (.ref (32)), some (.int (a0))], [.int (r8.1)], r8.2) = _
    by_cases hc10 : (r8.1) = (0 : Int32)
    · rw [if_pos hc10] at hp
      refine e_if_eq_t f132_27 hc10 ?_
      refine e_iconst (v := 0) f132_34 (by decide) ?_
      have hp := Option.some.inj hp
      subst hp
      exact e_ireturn f132_35 (by decide)
    · rw [if_neg hc10] at hp
      refine e_if_eq_f f132_27 hc10 ?_
      refine e_iconst (v := 1) f132_30 (by decide) ?_
      refine e_goto f132_31 ?_
      have hp := Option.some.inj hp
      subst hp
      exact e_ireturn f132_35 (by decide)
set_option maxRecDepth 100000 in
set_option maxHeartbeats 4000000 in
theorem p132_w (h : HS) (w : WF h) (a0 : Int32) (r : Int32 × HS) (hp : p132 h a0 = some r) : WF r.2 := by
  unfold p132 at hp
  obtain ⟨r1, hr2, hp⟩ := bind_some hp
  try dsimp only at hp
  by_cases hc3 : (r1) = (0 : Int32)
  · rw [if_pos hc3] at hp
    have hp := Option.some.inj hp
    subst hp
    exact (w)
  · rw [if_neg hc3] at hp
    by_cases hg4 : (a0) < (0 : Int32) ∨ 200 ≤ (a0).toNatClampNeg
    · rw [if_pos hg4] at hp; cases hp
    rw [if_neg hg4] at hp
    obtain ⟨o5, ho6, hp⟩ := bind_some hp
    try dsimp only at hp
    by_cases hg7 : hT (h) (o5) = 5
    rotate_left
    · rw [if_neg hg7] at hp; cases hp
    rw [if_pos hg7] at hp
    obtain ⟨r8, hr9, hp⟩ := bind_some hp
    try dsimp only at hp
    by_cases hc10 : (r8.1) = (0 : Int32)
    · rw [if_pos hc10] at hp
      have hp := Option.some.inj hp
      subst hp
      exact ((p68_w (h) w (o5) (hI (h) (32) 0) hg7  r8 hr9))
    · rw [if_neg hc10] at hp
      have hp := Option.some.inj hp
      subst hp
      exact ((p68_w (h) w (o5) (hI (h) (32) 0) hg7  r8 hr9))
theorem f167_0 : fetch 167 0 = some (.iload_n 0, 0, 0, 0) := rfl
theorem f167_1 : fetch 167 1 = some (.iconst 0, 0, 0, 0) := rfl
theorem f167_2 : fetch 167 2 = some (.sipush 3999, 0, 0, 0) := rfl
theorem f167_5 : fetch 167 5 = some (.invokestatic 91, 166, 3, 1) := rfl
theorem f167_8 : fetch 167 8 = some (.ireturn, 0, 0, 1) := rfl
set_option maxRecDepth 100000 in
set_option maxHeartbeats 4000000 in
theorem p167_ok (d : Nat) (h : HS) (w : WF h) (a0 : Int32) (r : Int32) (hp : p167 h a0 = some r) : ex (d + 1) 167 (ent 167 [.int (a0)] h) = some (some (.int (r)), h) := by
  rw [show ent 167 [.int (a0)] h = (0, [some (.int (a0))], [], h) from by  rfl]
  refine ex_weak (ls := [some (.int (a0))]) (le2_ok ⟨Or.inr rfl, trivial⟩) ?_
  unfold p167 at hp
  refine e_iload_n f167_0 rfl ?_
  refine e_iconst (v := 0) f167_1 (by decide) ?_
  refine e_sipush (v := 3999) f167_2 (by decide) ?_
  obtain ⟨r1, hr2, hp⟩ := bind_some hp
  try dsimp only at hp
  refine e_callS (st := []) (as := [.int (a0), .int (0), .int (3999)]) f167_5 (by decide) rfl rfl (Nat.le_of_ble_eq_true rfl) (Nat.le_of_ble_eq_true rfl) (p166_ok d (h) w (a0) (0) (3999) r1 hr2) ?_
  show ex _ 167 (8, [some (.int (a0))], [.int (r1)], h) = _
  by_cases hg3 : (r1) = (0 : Int32) ∨ (r1) = (1 : Int32)
  rotate_left
  · rw [if_neg hg3] at hp; cases hp
  rw [if_pos hg3] at hp
  have hp := Option.some.inj hp
  subst hp
  exact e_ireturn f167_8 (Or.inr hg3)
theorem f133_0 : fetch 133 0 = some (.aload_n 0, 0, 0, 0) := rfl
theorem f133_1 : fetch 133 1 = some (.getfield 38, 11, 8, 2) := rfl
theorem f133_4 : fetch 133 4 = some (.iload_n 1, 0, 0, 0) := rfl
theorem f133_5 : fetch 133 5 = some (.invokevirtual 254, 4, 1, 0) := rfl
theorem f133_8 : fetch 133 8 = some (.ifCond .eq 10, 18, 0, 0) := rfl
theorem f133_11 : fetch 133 11 = some (.iload_n 2, 0, 0, 0) := rfl
theorem f133_12 : fetch 133 12 = some (.invokestatic 260, 167, 1, 1) := rfl
theorem f133_15 : fetch 133 15 = some (.ifCond .ne 5, 20, 0, 0) := rfl
theorem f133_18 : fetch 133 18 = some (.iconst (-1), 0, 0, 0) := rfl
theorem f133_19 : fetch 133 19 = some (.ireturn, 0, 0, 0) := rfl
theorem f133_20 : fetch 133 20 = some (.aload_n 0, 0, 0, 0) := rfl
theorem f133_21 : fetch 133 21 = some (.getfield 38, 11, 8, 2) := rfl
theorem f133_24 : fetch 133 24 = some (.getfield 257, 0, 8, 2) := rfl
theorem f133_27 : fetch 133 27 = some (.iload_n 1, 0, 0, 0) := rfl
theorem f133_28 : fetch 133 28 = some (.aaload, 0, 0, 0) := rfl
theorem f133_29 : fetch 133 29 = some (.iload_n 2, 0, 0, 0) := rfl
theorem f133_30 : fetch 133 30 = some (.invokevirtual 263, 69, 1, 0) := rfl
theorem f133_33 : fetch 133 33 = some (.ifCond .eq 7, 40, 0, 0) := rfl
theorem f133_36 : fetch 133 36 = some (.iconst 1, 0, 0, 0) := rfl
theorem f133_37 : fetch 133 37 = some (.goto 4, 41, 0, 0) := rfl
theorem f133_40 : fetch 133 40 = some (.iconst 0, 0, 0, 0) := rfl
theorem f133_41 : fetch 133 41 = some (.ireturn, 0, 0, 0) := rfl
set_option maxRecDepth 100000 in
set_option maxHeartbeats 4000000 in
theorem p133_ok (d : Nat) (h : HS) (w : WF h) (a0 : Int32) (a1 : Int32) (r : Int32) (hp : p133 h a0 a1 = some r) : ex (d + 2) 133 (ent 133 [.ref (32), .int (a0), .int (a1)] h) = some (some (.int (r)), h) := by
  rw [show ent 133 [.ref (32), .int (a0), .int (a1)] h = (0, [some (.ref (32)), some (.int (a0)), some (.int (a1))], [], h) from by  rfl]
  refine ex_weak (ls := [some (.ref (32)), some (.int (a0)), some (.int (a1))]) (le2_ok ⟨Or.inr rfl, Or.inr rfl, Or.inr rfl, trivial⟩) ?_
  unfold p133 at hp
  refine e_aload_n f133_0 rfl ?_
  refine e_getR f133_1 (WF.t w 32 (by decide)) rfl (WF.r (q := 50) w 32 8 (by decide)) ?_
  refine e_iload_n f133_4 rfl ?_
  obtain ⟨r1, hr2, hp⟩ := bind_some hp
  try dsimp only at hp
  refine e_callV (st := []) (o := 50) (as := [.int (a0)]) f133_5 (by decide) rfl rfl (Nat.le_of_ble_eq_true rfl) (WF.t w 50 (by decide)) (Nat.le_of_ble_eq_true rfl) (p4_ok d (h) w (a0) r1 hr2) ?_
  show ex _ 133 (8, [some (.ref (32)), some (.int (a0)), some (.int (a1))], [.int (r1)], h) = _
  by_cases hc3 : (r1) = (0 : Int32)
  · rw [if_pos hc3] at hp
    refine e_if_eq_t f133_8 hc3 ?_
    refine e_iconst (v := -1) f133_18 (by decide) ?_
    have hp := Option.some.inj hp
    subst hp
    exact e_ireturn f133_19 (Or.inl rfl)
  · rw [if_neg hc3] at hp
    refine e_if_eq_f f133_8 hc3 ?_
    refine e_iload_n f133_11 rfl ?_
    obtain ⟨r4, hr5, hp⟩ := bind_some hp
    try dsimp only at hp
    refine e_callS (st := []) (as := [.int (a1)]) f133_12 (by decide) rfl rfl (Nat.le_of_ble_eq_true rfl) (Nat.le_of_ble_eq_true rfl) (p167_ok d (h) w (a1) r4 hr5) ?_
    show ex _ 133 (15, [some (.ref (32)), some (.int (a0)), some (.int (a1))], [.int (r4)], h) = _
    by_cases hc6 : (r4) = (0 : Int32)
    · rw [if_pos hc6] at hp
      refine e_if_ne_f f133_15 hc6 ?_
      refine e_iconst (v := -1) f133_18 (by decide) ?_
      have hp := Option.some.inj hp
      subst hp
      exact e_ireturn f133_19 (Or.inl rfl)
    · rw [if_neg hc6] at hp
      refine e_if_ne_t f133_15 hc6 ?_
      refine e_aload_n f133_20 rfl ?_
      refine e_getR f133_21 (WF.t w 32 (by decide)) rfl (WF.r (q := 50) w 32 8 (by decide)) ?_
      refine e_getR f133_24 (WF.t w 50 (by decide)) rfl (WF.r (q := 54) w 50 8 (by decide)) ?_
      refine e_iload_n f133_27 rfl ?_
      by_cases hg7 : (a0) < (0 : Int32) ∨ 200 ≤ (a0).toNatClampNeg
      · rw [if_pos hg7] at hp; cases hp
      rw [if_neg hg7] at hp
      refine e_aaload f133_28 (Or.inr (Or.inr (Or.inr (WF.t w 54 (by decide))))) (WF.n w 54 (by decide)) hg7 ?_
      refine e_iload_n f133_29 rfl ?_
      obtain ⟨o8, ho9, hp⟩ := bind_some hp
      try dsimp only at hp
      rw [ho9]
      by_cases hg10 : hT (h) (o8) = 5
      rotate_left
      · rw [if_neg hg10] at hp; cases hp
      rw [if_pos hg10] at hp
      obtain ⟨r11, hr12, hp⟩ := bind_some hp
      try dsimp only at hp
      refine e_callV (st := []) (o := o8) (as := [.int (a1)]) f133_30 (by decide) rfl rfl (Nat.le_of_ble_eq_true rfl) hg10 (Nat.le_of_ble_eq_true rfl) (p69_ok (d + 1) (h) w (o8) (a1) hg10 r11 hr12) ?_
      show ex _ 133 (33, [some (.ref (32)), some (.int (a0)), some (.int (a1))], [.int (r11)], h) = _
      by_cases hc13 : (r11) = (0 : Int32)
      · rw [if_pos hc13] at hp
        refine e_if_eq_t f133_33 hc13 ?_
        refine e_iconst (v := 0) f133_40 (by decide) ?_
        have hp := Option.some.inj hp
        subst hp
        exact e_ireturn f133_41 (Or.inl rfl)
      · rw [if_neg hc13] at hp
        refine e_if_eq_f f133_33 hc13 ?_
        refine e_iconst (v := 1) f133_36 (by decide) ?_
        refine e_goto f133_37 ?_
        have hp := Option.some.inj hp
        subst hp
        exact e_ireturn f133_41 (Or.inl rfl)
theorem f134_0 : fetch 134 0 = some (.aload_n 0, 0, 0, 0) := rfl
theorem f134_1 : fetch 134 1 = some (.getfield 38, 11, 8, 2) := rfl
theorem f134_4 : fetch 134 4 = some (.iload_n 1, 0, 0, 0) := rfl
theorem f134_5 : fetch 134 5 = some (.invokevirtual 242, 2, 1, 0) := rfl
theorem f134_8 : fetch 134 8 = some (.ifCond .eq 21, 29, 0, 0) := rfl
theorem f134_11 : fetch 134 11 = some (.aload_n 0, 0, 0, 0) := rfl
theorem f134_12 : fetch 134 12 = some (.getfield 38, 11, 8, 2) := rfl
theorem f134_15 : fetch 134 15 = some (.iload_n 2, 0, 0, 0) := rfl
theorem f134_16 : fetch 134 16 = some (.invokevirtual 202, 1, 1, 0) := rfl
theorem f134_19 : fetch 134 19 = some (.ifCond .eq 10, 29, 0, 0) := rfl
theorem f134_22 : fetch 134 22 = some (.iload_n 3, 0, 0, 0) := rfl
theorem f134_23 : fetch 134 23 = some (.invokestatic 260, 167, 1, 1) := rfl
theorem f134_26 : fetch 134 26 = some (.ifCond .ne 6, 32, 0, 0) := rfl
theorem f134_29 : fetch 134 29 = some (.bipush (-2), 0, 0, 0) := rfl
theorem f134_31 : fetch 134 31 = some (.ireturn, 0, 0, 0) := rfl
theorem f134_32 : fetch 134 32 = some (.aload_n 0, 0, 0, 0) := rfl
theorem f134_33 : fetch 134 33 = some (.getfield 38, 11, 8, 2) := rfl
theorem f134_36 : fetch 134 36 = some (.iload_n 1, 0, 0, 0) := rfl
theorem f134_37 : fetch 134 37 = some (.iload_n 2, 0, 0, 0) := rfl
theorem f134_38 : fetch 134 38 = some (.iload_n 3, 0, 0, 0) := rfl
theorem f134_39 : fetch 134 39 = some (.invokevirtual 266, 12, 3, 0) := rfl
theorem f134_42 : fetch 134 42 = some (.ireturn, 0, 0, 0) := rfl
set_option maxRecDepth 100000 in
set_option maxHeartbeats 4000000 in
theorem p134_ok (d : Nat) (F : Nat) (h : HS) (w : WF h) (a0 : Int32) (a1 : Int32) (a2 : Int32) (r : Int32) (hp : p134 F h a0 a1 a2 = some r) : ex (d + 3) 134 (ent 134 [.ref (32), .int (a0), .int (a1), .int (a2)] h) = some (some (.int (r)), h) := by
  rw [show ent 134 [.ref (32), .int (a0), .int (a1), .int (a2)] h = (0, [some (.ref (32)), some (.int (a0)), some (.int (a1)), some (.int (a2))], [], h) from by  rfl]
  refine ex_weak (ls := [some (.ref (32)), some (.int (a0)), some (.int (a1)), some (.int (a2))]) (le2_ok ⟨Or.inr rfl, Or.inr rfl, Or.inr rfl, Or.inr rfl, trivial⟩) ?_
  unfold p134 at hp
  refine e_aload_n f134_0 rfl ?_
  refine e_getR f134_1 (WF.t w 32 (by decide)) rfl (WF.r (q := 50) w 32 8 (by decide)) ?_
  refine e_iload_n f134_4 rfl ?_
  obtain ⟨r1, hr2, hp⟩ := bind_some hp
  try dsimp only at hp
  refine e_callV (st := []) (o := 50) (as := [.int (a0)]) f134_5 (by decide) rfl rfl (Nat.le_of_ble_eq_true rfl) (WF.t w 50 (by decide)) (Nat.le_of_ble_eq_true rfl) (p2_ok (d + 1) (h) w (a0) r1 hr2) ?_
  show ex _ 134 (8, [some (.ref (32)), some (.int (a0)), some (.int (a1)), some (.int (a2))], [.int (r1)], h) = _
  by_cases hc3 : (r1) = (0 : Int32)
  · rw [if_pos hc3] at hp
    refine e_if_eq_t f134_8 hc3 ?_
    refine e_bipush (v := -2) f134_29 (by decide) ?_
    have hp := Option.some.inj hp
    subst hp
    exact e_ireturn f134_31 (Or.inl rfl)
  · rw [if_neg hc3] at hp
    refine e_if_eq_f f134_8 hc3 ?_
    refine e_aload_n f134_11 rfl ?_
    refine e_getR f134_12 (WF.t w 32 (by decide)) rfl (WF.r (q := 50) w 32 8 (by decide)) ?_
    refine e_iload_n f134_15 rfl ?_
    obtain ⟨r4, hr5, hp⟩ := bind_some hp
    try dsimp only at hp
    refine e_callV (st := []) (o := 50) (as := [.int (a1)]) f134_16 (by decide) rfl rfl (Nat.le_of_ble_eq_true rfl) (WF.t w 50 (by decide)) (Nat.le_of_ble_eq_true rfl) (p1_ok (d + 1) (h) w (a1) r4 hr5) ?_
    show ex _ 134 (19, [some (.ref (32)), some (.int (a0)), some (.int (a1)), some (.int (a2))], [.int (r4)], h) = _
    by_cases hc6 : (r4) = (0 : Int32)
    · rw [if_pos hc6] at hp
      refine e_if_eq_t f134_19 hc6 ?_
      refine e_bipush (v := -2) f134_29 (by decide) ?_
      have hp := Option.some.inj hp
      subst hp
      exact e_ireturn f134_31 (Or.inl rfl)
    · rw [if_neg hc6] at hp
      refine e_if_eq_f f134_19 hc6 ?_
      refine e_iload_n f134_22 rfl ?_
      obtain ⟨r7, hr8, hp⟩ := bind_some hp
      try dsimp only at hp
      refine e_callS (st := []) (as := [.int (a2)]) f134_23 (by decide) rfl rfl (Nat.le_of_ble_eq_true rfl) (Nat.le_of_ble_eq_true rfl) (p167_ok (d + 1) (h) w (a2) r7 hr8) ?_
      show ex _ 134 (26, [some (.ref (32)), some (.int (a0)), some (.int (a1)), some (.int (a2))], [.int (r7)], h) = _
      by_cases hc9 : (r7) = (0 : Int32)
      · rw [if_pos hc9] at hp
        refine e_if_ne_f f134_26 hc9 ?_
        refine e_bipush (v := -2) f134_29 (by decide) ?_
        have hp := Option.some.inj hp
        subst hp
        exact e_ireturn f134_31 (Or.inl rfl)
      · rw [if_neg hc9] at hp
        refine e_if_ne_t f134_26 hc9 ?_
        refine e_aload_n f134_32 rfl ?_
        refine e_getR f134_33 (WF.t w 32 (by decide)) rfl (WF.r (q := 50) w 32 8 (by decide)) ?_
        refine e_iload_n f134_36 rfl ?_
        refine e_iload_n f134_37 rfl ?_
        refine e_iload_n f134_38 rfl ?_
        obtain ⟨r10, hr11, hp⟩ := bind_some hp
        try dsimp only at hp
        refine e_callV (st := []) (o := 50) (as := [.int (a0), .int (a1), .int (a2)]) f134_39 (by decide) rfl rfl (Nat.le_of_ble_eq_true rfl) (WF.t w 50 (by decide)) (Nat.le_of_ble_eq_true rfl) (p12_ok d F (h) w (a0) (a1) (a2) r10 hr11) ?_
        show ex _ 134 (42, [some (.ref (32)), some (.int (a0)), some (.int (a1)), some (.int (a2))], [.int (r10)], h) = _
        have hp := Option.some.inj hp
        subst hp
        exact e_ireturn f134_42 (Or.inl rfl)
theorem f135_0 : fetch 135 0 = some (.aload_n 0, 0, 0, 0) := rfl
theorem f135_1 : fetch 135 1 = some (.getfield 38, 11, 8, 2) := rfl
theorem f135_4 : fetch 135 4 = some (.iload_n 1, 0, 0, 0) := rfl
theorem f135_5 : fetch 135 5 = some (.invokevirtual 242, 2, 1, 0) := rfl
theorem f135_8 : fetch 135 8 = some (.ifCond .eq 10, 18, 0, 0) := rfl
theorem f135_11 : fetch 135 11 = some (.iload_n 2, 0, 0, 0) := rfl
theorem f135_12 : fetch 135 12 = some (.invokestatic 260, 167, 1, 1) := rfl
theorem f135_15 : fetch 135 15 = some (.ifCond .ne 5, 20, 0, 0) := rfl
theorem f135_18 : fetch 135 18 = some (.iconst (-1), 0, 0, 0) := rfl
theorem f135_19 : fetch 135 19 = some (.ireturn, 0, 0, 0) := rfl
theorem f135_20 : fetch 135 20 = some (.aload_n 0, 0, 0, 0) := rfl
theorem f135_21 : fetch 135 21 = some (.getfield 38, 11, 8, 2) := rfl
theorem f135_24 : fetch 135 24 = some (.iload_n 1, 0, 0, 0) := rfl
theorem f135_25 : fetch 135 25 = some (.iload_n 2, 0, 0, 0) := rfl
theorem f135_26 : fetch 135 26 = some (.invokevirtual 269, 13, 2, 0) := rfl
theorem f135_29 : fetch 135 29 = some (.lstore 4, 0, 0, 0) := rfl
theorem f135_31 : fetch 135 31 = some (.iload_n 3, 0, 0, 0) := rfl
theorem f135_32 : fetch 135 32 = some (.iconst (-1), 0, 0, 0) := rfl
theorem f135_33 : fetch 135 33 = some (.if_icmp .ne 11, 44, 0, 0) := rfl
theorem f135_36 : fetch 135 36 = some (.lload 4, 0, 0, 0) := rfl
theorem f135_38 : fetch 135 38 = some (.invokestatic 273, 307, 1, 1) := rfl
theorem f135_41 : fetch 135 41 = some (.goto 9, 50, 0, 0) := rfl
theorem f135_44 : fetch 135 44 = some (.lload 4, 0, 0, 0) := rfl
theorem f135_46 : fetch 135 46 = some (.iload_n 3, 0, 0, 0) := rfl
theorem f135_47 : fetch 135 47 = some (.invokestatic 279, 169, 2, 1) := rfl
theorem f135_50 : fetch 135 50 = some (.ireturn, 0, 0, 0) := rfl
set_option maxRecDepth 100000 in
set_option maxHeartbeats 4000000 in
theorem p135_ok (d : Nat) (F : Nat) (h : HS) (w : WF h) (a0 : Int32) (a1 : Int32) (a2 : Int32) (r : Int32) (hp : p135 F h a0 a1 a2 = some r) : ex (d + 3) 135 (ent 135 [.ref (32), .int (a0), .int (a1), .int (a2)] h) = some (some (.int (r)), h) := by
  rw [show ent 135 [.ref (32), .int (a0), .int (a1), .int (a2)] h = (0, [some (.ref (32)), some (.int (a0)), some (.int (a1)), some (.int (a2)), none, none], [], h) from by  rfl]
  refine ex_weak (ls := [some (.ref (32)), some (.int (a0)), some (.int (a1)), some (.int (a2)), none, none]) (le2_ok ⟨Or.inr rfl, Or.inr rfl, Or.inr rfl, Or.inr rfl, Or.inr rfl, Or.inr rfl, trivial⟩) ?_
  unfold p135 at hp
  refine e_aload_n f135_0 rfl ?_
  refine e_getR f135_1 (WF.t w 32 (by decide)) rfl (WF.r (q := 50) w 32 8 (by decide)) ?_
  refine e_iload_n f135_4 rfl ?_
  obtain ⟨r1, hr2, hp⟩ := bind_some hp
  try dsimp only at hp
  refine e_callV (st := []) (o := 50) (as := [.int (a0)]) f135_5 (by decide) rfl rfl (Nat.le_of_ble_eq_true rfl) (WF.t w 50 (by decide)) (Nat.le_of_ble_eq_true rfl) (p2_ok (d + 1) (h) w (a0) r1 hr2) ?_
  show ex _ 135 (8, [some (.ref (32)), some (.int (a0)), some (.int (a1)), some (.int (a2)), none, none], [.int (r1)], h) = _
  by_cases hc3 : (r1) = (0 : Int32)
  · rw [if_pos hc3] at hp
    refine e_if_eq_t f135_8 hc3 ?_
    refine e_iconst (v := -1) f135_18 (by decide) ?_
    have hp := Option.some.inj hp
    subst hp
    exact e_ireturn f135_19 (Or.inl rfl)
  · rw [if_neg hc3] at hp
    refine e_if_eq_f f135_8 hc3 ?_
    refine e_iload_n f135_11 rfl ?_
    obtain ⟨r4, hr5, hp⟩ := bind_some hp
    try dsimp only at hp
    refine e_callS (st := []) (as := [.int (a1)]) f135_12 (by decide) rfl rfl (Nat.le_of_ble_eq_true rfl) (Nat.le_of_ble_eq_true rfl) (p167_ok (d + 1) (h) w (a1) r4 hr5) ?_
    show ex _ 135 (15, [some (.ref (32)), some (.int (a0)), some (.int (a1)), some (.int (a2)), none, none], [.int (r4)], h) = _
    by_cases hc6 : (r4) = (0 : Int32)
    · rw [if_pos hc6] at hp
      refine e_if_ne_f f135_15 hc6 ?_
      refine e_iconst (v := -1) f135_18 (by decide) ?_
      have hp := Option.some.inj hp
      subst hp
      exact e_ireturn f135_19 (Or.inl rfl)
    · rw [if_neg hc6] at hp
      refine e_if_ne_t f135_15 hc6 ?_
      refine e_aload_n f135_20 rfl ?_
      refine e_getR f135_21 (WF.t w 32 (by decide)) rfl (WF.r (q := 50) w 32 8 (by decide)) ?_
      refine e_iload_n f135_24 rfl ?_
      refine e_iload_n f135_25 rfl ?_
      obtain ⟨r7, hr8, hp⟩ := bind_some hp
      try dsimp only at hp
      refine e_callV (st := []) (o := 50) (as := [.int (a0), .int (a1)]) f135_26 (by decide) rfl rfl (Nat.le_of_ble_eq_true rfl) (WF.t w 50 (by decide)) (Nat.le_of_ble_eq_true rfl) (p13_ok d F (h) w (a0) (a1) r7 hr8) ?_
      show ex _ 135 (29, [some (.ref (32)), some (.int (a0)), some (.int (a1)), some (.int (a2)), none, none], [.long (r7)], h) = _
      refine e_lstore (ls2 := [some (.ref (32)), some (.int (a0)), some (.int (a1)), some (.int (a2)), some (.long (r7)), none]) f135_29 (Nat.le_of_ble_eq_true rfl) rfl ?_
      refine e_iload_n f135_31 rfl ?_
      refine e_iconst (v := -1) f135_32 (by decide) ?_
      by_cases hc9 : (a2) = (((-1)) : Int32)
      · rw [if_pos hc9] at hp
        refine e_icmp_ne_f f135_33 hc9 ?_
        refine e_lload f135_36 rfl ?_
        obtain ⟨r10, hr11, hp⟩ := bind_some hp
        try dsimp only at hp
        refine e_callS (st := []) (as := [.long (r7)]) f135_38 (by decide) rfl rfl (Nat.le_of_ble_eq_true rfl) (Nat.le_of_ble_eq_true rfl) (p307_ok (d + 2) (h) w (r7) r10 hr11) ?_
        show ex _ 135 (41, [some (.ref (32)), some (.int (a0)), some (.int (a1)), some (.int (a2)), some (.long (r7)), none], [.int (r10)], h) = _
        refine e_goto f135_41 ?_
        have hp := Option.some.inj hp
        subst hp
        exact e_ireturn f135_50 (Or.inl rfl)
      · rw [if_neg hc9] at hp
        refine e_icmp_ne_t f135_33 hc9 ?_
        refine e_lload f135_44 rfl ?_
        refine e_iload_n f135_46 rfl ?_
        obtain ⟨r12, hr13, hp⟩ := bind_some hp
        try dsimp only at hp
        refine e_callS (st := []) (as := [.long (r7), .int (a2)]) f135_47 (by decide) rfl rfl (Nat.le_of_ble_eq_true rfl) (Nat.le_of_ble_eq_true rfl) (p169_ok (d + 2) F (h) w (r7) (a2) r12 hr13) ?_
        show ex _ 135 (50, [some (.ref (32)), some (.int (a0)), some (.int (a1)), some (.int (a2)), some (.long (r7)), none], [.int (r12)], h) = _
        have hp := Option.some.inj hp
        subst hp
        exact e_ireturn f135_50 (Or.inl rfl)
theorem f136_0 : fetch 136 0 = some (.aload_n 0, 0, 0, 0) := rfl
theorem f136_1 : fetch 136 1 = some (.getfield 38, 11, 8, 2) := rfl
theorem f136_4 : fetch 136 4 = some (.iload_n 1, 0, 0, 0) := rfl
theorem f136_5 : fetch 136 5 = some (.invokevirtual 242, 2, 1, 0) := rfl
theorem f136_8 : fetch 136 8 = some (.ifCond .eq 22, 30, 0, 0) := rfl
theorem f136_11 : fetch 136 11 = some (.iload_n 2, 0, 0, 0) := rfl
theorem f136_12 : fetch 136 12 = some (.invokestatic 260, 167, 1, 1) := rfl
theorem f136_15 : fetch 136 15 = some (.ifCond .eq 15, 30, 0, 0) := rfl
theorem f136_18 : fetch 136 18 = some (.aload_n 0, 0, 0, 0) := rfl
theorem f136_19 : fetch 136 19 = some (.getfield 38, 11, 8, 2) := rfl
theorem f136_22 : fetch 136 22 = some (.iload_n 1, 0, 0, 0) := rfl
theorem f136_23 : fetch 136 23 = some (.iload_n 2, 0, 0, 0) := rfl
theorem f136_24 : fetch 136 24 = some (.invokevirtual 283, 17, 2, 0) := rfl
theorem f136_27 : fetch 136 27 = some (.goto 4, 31, 0, 0) := rfl
theorem f136_30 : fetch 136 30 = some (.iconst (-1), 0, 0, 0) := rfl
theorem f136_31 : fetch 136 31 = some (.ireturn, 0, 0, 0) := rfl
set_option maxRecDepth 100000 in
set_option maxHeartbeats 4000000 in
theorem p136_ok (d : Nat) (F : Nat) (h : HS) (w : WF h) (a0 : Int32) (a1 : Int32) (r : Int32) (hp : p136 F h a0 a1 = some r) : ex (d + 4) 136 (ent 136 [.ref (32), .int (a0), .int (a1)] h) = some (some (.int (r)), h) := by
  rw [show ent 136 [.ref (32), .int (a0), .int (a1)] h = (0, [some (.ref (32)), some (.int (a0)), some (.int (a1))], [], h) from by  rfl]
  refine ex_weak (ls := [some (.ref (32)), some (.int (a0)), some (.int (a1))]) (le2_ok ⟨Or.inr rfl, Or.inr rfl, Or.inr rfl, trivial⟩) ?_
  unfold p136 at hp
  refine e_aload_n f136_0 rfl ?_
  refine e_getR f136_1 (WF.t w 32 (by decide)) rfl (WF.r (q := 50) w 32 8 (by decide)) ?_
  refine e_iload_n f136_4 rfl ?_
  obtain ⟨r1, hr2, hp⟩ := bind_some hp
  try dsimp only at hp
  refine e_callV (st := []) (o := 50) (as := [.int (a0)]) f136_5 (by decide) rfl rfl (Nat.le_of_ble_eq_true rfl) (WF.t w 50 (by decide)) (Nat.le_of_ble_eq_true rfl) (p2_ok (d + 2) (h) w (a0) r1 hr2) ?_
  show ex _ 136 (8, [some (.ref (32)), some (.int (a0)), some (.int (a1))], [.int (r1)], h) = _
  by_cases hc3 : (r1) = (0 : Int32)
  · rw [if_pos hc3] at hp
    refine e_if_eq_t f136_8 hc3 ?_
    refine e_iconst (v := -1) f136_30 (by decide) ?_
    have hp := Option.some.inj hp
    subst hp
    exact e_ireturn f136_31 (Or.inl rfl)
  · rw [if_neg hc3] at hp
    refine e_if_eq_f f136_8 hc3 ?_
    refine e_iload_n f136_11 rfl ?_
    obtain ⟨r4, hr5, hp⟩ := bind_some hp
    try dsimp only at hp
    refine e_callS (st := []) (as := [.int (a1)]) f136_12 (by decide) rfl rfl (Nat.le_of_ble_eq_true rfl) (Nat.le_of_ble_eq_true rfl) (p167_ok (d + 2) (h) w (a1) r4 hr5) ?_
    show ex _ 136 (15, [some (.ref (32)), some (.int (a0)), some (.int (a1))], [.int (r4)], h) = _
    by_cases hc6 : (r4) = (0 : Int32)
    · rw [if_pos hc6] at hp
      refine e_if_eq_t f136_15 hc6 ?_
      refine e_iconst (v := -1) f136_30 (by decide) ?_
      have hp := Option.some.inj hp
      subst hp
      exact e_ireturn f136_31 (Or.inl rfl)
    · rw [if_neg hc6] at hp
      refine e_if_eq_f f136_15 hc6 ?_
      refine e_aload_n f136_18 rfl ?_
      refine e_getR f136_19 (WF.t w 32 (by decide)) rfl (WF.r (q := 50) w 32 8 (by decide)) ?_
      refine e_iload_n f136_22 rfl ?_
      refine e_iload_n f136_23 rfl ?_
      obtain ⟨r7, hr8, hp⟩ := bind_some hp
      try dsimp only at hp
      refine e_callV (st := []) (o := 50) (as := [.int (a0), .int (a1)]) f136_24 (by decide) rfl rfl (Nat.le_of_ble_eq_true rfl) (WF.t w 50 (by decide)) (Nat.le_of_ble_eq_true rfl) (p17_ok d F (h) w (a0) (a1) r7 hr8) ?_
      show ex _ 136 (27, [some (.ref (32)), some (.int (a0)), some (.int (a1))], [.int (r7)], h) = _
      refine e_goto f136_27 ?_
      have hp := Option.some.inj hp
      subst hp
      exact e_ireturn f136_31 (Or.inl rfl)
theorem f137_0 : fetch 137 0 = some (.aload_n 0, 0, 0, 0) := rfl
theorem f137_1 : fetch 137 1 = some (.getfield 38, 11, 8, 2) := rfl
theorem f137_4 : fetch 137 4 = some (.iload_n 1, 0, 0, 0) := rfl
theorem f137_5 : fetch 137 5 = some (.invokevirtual 242, 2, 1, 0) := rfl
theorem f137_8 : fetch 137 8 = some (.ifCond .eq 22, 30, 0, 0) := rfl
theorem f137_11 : fetch 137 11 = some (.aload_n 0, 0, 0, 0) := rfl
theorem f137_12 : fetch 137 12 = some (.getfield 38, 11, 8, 2) := rfl
theorem f137_15 : fetch 137 15 = some (.iload_n 1, 0, 0, 0) := rfl
theorem f137_16 : fetch 137 16 = some (.aload_n 0, 0, 0, 0) := rfl
theorem f137_17 : fetch 137 17 = some (.getfield 88, 11, 0, 0) := rfl
theorem f137_20 : fetch 137 20 = some (.aload_n 0, 0, 0, 0) := rfl
theorem f137_21 : fetch 137 21 = some (.getfield 143, 11, 2, 0) := rfl
theorem f137_24 : fetch 137 24 = some (.invokevirtual 286, 19, 3, 0) := rfl
theorem f137_27 : fetch 137 27 = some (.goto 4, 31, 0, 0) := rfl
theorem f137_30 : fetch 137 30 = some (.iconst (-1), 0, 0, 0) := rfl
theorem f137_31 : fetch 137 31 = some (.ireturn, 0, 0, 0) := rfl
set_option maxRecDepth 100000 in
set_option maxHeartbeats 4000000 in
theorem p137_ok (d : Nat) (F : Nat) (h : HS) (w : WF h) (a0 : Int32) (r : Int32 × HS) (hp : p137 F h a0 = some r) : ex (d + 4) 137 (ent 137 [.ref (32), .int (a0)] h) = some (some (.int (r.1)), r.2) := by
  rw [show ent 137 [.ref (32), .int (a0)] h = (0, [some (.ref (32)), some (.int (a0))], [], h) from by  rfl]
  refine ex_weak (ls := [some (.ref (32)), some (.int (a0))]) (le2_ok ⟨Or.inr rfl, Or.inr rfl, trivial⟩) ?_
  unfold p137 at hp
  refine e_aload_n f137_0 rfl ?_
  refine e_getR f137_1 (WF.t w 32 (by decide)) rfl (WF.r (q := 50) w 32 8 (by decide)) ?_
  refine e_iload_n f137_4 rfl ?_
  obtain ⟨r1, hr2, hp⟩ := bind_some hp
  try dsimp only at hp
  refine e_callV (st := []) (o := 50) (as := [.int (a0)]) f137_5 (by decide) rfl rfl (Nat.le_of_ble_eq_true rfl) (WF.t w 50 (by decide)) (Nat.le_of_ble_eq_true rfl) (p2_ok (d + 2) (h) w (a0) r1 hr2) ?_
  show ex _ 137 (8, [some (.ref (32)), some (.int (a0))], [.int (r1)], h) = _
  by_cases hc3 : (r1) = (0 : Int32)
  · rw [if_pos hc3] at hp
    refine e_if_eq_t f137_8 hc3 ?_
    refine e_iconst (v := -1) f137_30 (by decide) ?_
    have hp := Option.some.inj hp
    subst hp
    exact e_ireturn f137_31 (Or.inl rfl)
  · rw [if_neg hc3] at hp
    refine e_if_eq_f f137_8 hc3 ?_
    refine e_aload_n f137_11 rfl ?_
    refine e_getR f137_12 (WF.t w 32 (by decide)) rfl (WF.r (q := 50) w 32 8 (by decide)) ?_
    refine e_iload_n f137_15 rfl ?_
    refine e_aload_n f137_16 rfl ?_
    refine e_getI f137_17 (WF.t w 32 (by decide)) (by decide) ?_
    refine e_aload_n f137_20 rfl ?_
    refine e_getI f137_21 (WF.t w 32 (by decide)) (by decide) ?_
    obtain ⟨r4, hr5, hp⟩ := bind_some hp
    try dsimp only at hp
    refine e_callV (st := []) (o := 50) (as := [.int (a0), .int (hI (h) (32) 0), .int (hI (h) (32) 2)]) f137_24 (by decide) rfl rfl (Nat.le_of_ble_eq_true rfl) (WF.t w 50 (by decide)) (Nat.le_of_ble_eq_true rfl) (p19_ok d F (h) w (a0) (hI (h) (32) 0) (hI (h) (32) 2) r4 hr5) ?_
    show ex _ 137 (27, [some (.ref (32)), some (.int (a0))], [.int (r4.1)], r4.2) = _
    refine e_goto f137_27 ?_
    have hp := Option.some.inj hp
    subst hp
    exact e_ireturn f137_31 (Or.inl rfl)
set_option maxRecDepth 100000 in
set_option maxHeartbeats 4000000 in
theorem p137_w (F : Nat) (h : HS) (w : WF h) (a0 : Int32) (r : Int32 × HS) (hp : p137 F h a0 = some r) : WF r.2 := by
  unfold p137 at hp
  obtain ⟨r1, hr2, hp⟩ := bind_some hp
  try dsimp only at hp
  by_cases hc3 : (r1) = (0 : Int32)
  · rw [if_pos hc3] at hp
    have hp := Option.some.inj hp
    subst hp
    exact (w)
  · rw [if_neg hc3] at hp
    obtain ⟨r4, hr5, hp⟩ := bind_some hp
    try dsimp only at hp
    have hp := Option.some.inj hp
    subst hp
    exact ((p19_w F (h) w (a0) (hI (h) (32) 0) (hI (h) (32) 2)  r4 hr5))
theorem f138_0 : fetch 138 0 = some (.aload_n 0, 0, 0, 0) := rfl
theorem f138_1 : fetch 138 1 = some (.getfield 38, 11, 8, 2) := rfl
theorem f138_4 : fetch 138 4 = some (.iload_n 1, 0, 0, 0) := rfl
theorem f138_5 : fetch 138 5 = some (.invokevirtual 254, 4, 1, 0) := rfl
theorem f138_8 : fetch 138 8 = some (.ifCond .eq 19, 27, 0, 0) := rfl
theorem f138_11 : fetch 138 11 = some (.iload_n 2, 0, 0, 0) := rfl
theorem f138_12 : fetch 138 12 = some (.invokestatic 260, 167, 1, 1) := rfl
theorem f138_15 : fetch 138 15 = some (.ifCond .eq 12, 27, 0, 0) := rfl
theorem f138_18 : fetch 138 18 = some (.iload_n 3, 0, 0, 0) := rfl
theorem f138_19 : fetch 138 19 = some (.iconst 0, 0, 0, 0) := rfl
theorem f138_20 : fetch 138 20 = some (.iconst 1, 0, 0, 0) := rfl
theorem f138_21 : fetch 138 21 = some (.invokestatic 91, 166, 3, 1) := rfl
theorem f138_24 : fetch 138 24 = some (.ifCond .ne 6, 30, 0, 0) := rfl
theorem f138_27 : fetch 138 27 = some (.bipush (-2), 0, 0, 0) := rfl
theorem f138_29 : fetch 138 29 = some (.ireturn, 0, 0, 0) := rfl
theorem f138_30 : fetch 138 30 = some (.iload_n 3, 0, 0, 0) := rfl
theorem f138_31 : fetch 138 31 = some (.iconst 1, 0, 0, 0) := rfl
theorem f138_32 : fetch 138 32 = some (.if_icmp .ne 13, 45, 0, 0) := rfl
theorem f138_35 : fetch 138 35 = some (.aload_n 0, 0, 0, 0) := rfl
theorem f138_36 : fetch 138 36 = some (.getfield 38, 11, 8, 2) := rfl
theorem f138_39 : fetch 138 39 = some (.iload_n 1, 0, 0, 0) := rfl
theorem f138_40 : fetch 138 40 = some (.iload_n 2, 0, 0, 0) := rfl
theorem f138_41 : fetch 138 41 = some (.invokevirtual 289, 21, 2, 0) := rfl
theorem f138_44 : fetch 138 44 = some (.ireturn, 0, 0, 0) := rfl
theorem f138_45 : fetch 138 45 = some (.aload_n 0, 0, 0, 0) := rfl
theorem f138_46 : fetch 138 46 = some (.getfield 38, 11, 8, 2) := rfl
theorem f138_49 : fetch 138 49 = some (.iload_n 1, 0, 0, 0) := rfl
theorem f138_50 : fetch 138 50 = some (.iload_n 2, 0, 0, 0) := rfl
theorem f138_51 : fetch 138 51 = some (.invokevirtual 292, 20, 2, 0) := rfl
theorem f138_54 : fetch 138 54 = some (.ifCond .eq 7, 61, 0, 0) := rfl
theorem f138_57 : fetch 138 57 = some (.iconst 1, 0, 0, 0) := rfl
theorem f138_58 : fetch 138 58 = some (.goto 4, 62, 0, 0) := rfl
theorem f138_61 : fetch 138 61 = some (.iconst 0, 0, 0, 0) := rfl
theorem f138_62 : fetch 138 62 = some (.ireturn, 0, 0, 0) := rfl
set_option maxRecDepth 100000 in
set_option maxHeartbeats 4000000 in
theorem p138_ok (d : Nat) (F : Nat) (h : HS) (w : WF h) (a0 : Int32) (a1 : Int32) (a2 : Int32) (r : Int32) (hp : p138 F h a0 a1 a2 = some r) : ex (d + 3) 138 (ent 138 [.ref (32), .int (a0), .int (a1), .int (a2)] h) = some (some (.int (r)), h) := by
  rw [show ent 138 [.ref (32), .int (a0), .int (a1), .int (a2)] h = (0, [some (.ref (32)), some (.int (a0)), some (.int (a1)), some (.int (a2))], [], h) from by  rfl]
  refine ex_weak (ls := [some (.ref (32)), some (.int (a0)), some (.int (a1)), some (.int (a2))]) (le2_ok ⟨Or.inr rfl, Or.inr rfl, Or.inr rfl, Or.inr rfl, trivial⟩) ?_
  unfold p138 at hp
  refine e_aload_n f138_0 rfl ?_
  refine e_getR f138_1 (WF.t w 32 (by decide)) rfl (WF.r (q := 50) w 32 8 (by decide)) ?_
  refine e_iload_n f138_4 rfl ?_
  obtain ⟨r1, hr2, hp⟩ := bind_some hp
  try dsimp only at hp
  refine e_callV (st := []) (o := 50) (as := [.int (a0)]) f138_5 (by decide) rfl rfl (Nat.le_of_ble_eq_true rfl) (WF.t w 50 (by decide)) (Nat.le_of_ble_eq_true rfl) (p4_ok (d + 1) (h) w (a0) r1 hr2) ?_
  show ex _ 138 (8, [some (.ref (32)), some (.int (a0)), some (.int (a1)), some (.int (a2))], [.int (r1)], h) = _
  by_cases hc3 : (r1) = (0 : Int32)
  · rw [if_pos hc3] at hp
    refine e_if_eq_t f138_8 hc3 ?_
    refine e_bipush (v := -2) f138_27 (by decide) ?_
    have hp := Option.some.inj hp
    subst hp
    exact e_ireturn f138_29 (Or.inl rfl)
  · rw [if_neg hc3] at hp
    refine e_if_eq_f f138_8 hc3 ?_
    refine e_iload_n f138_11 rfl ?_
    obtain ⟨r4, hr5, hp⟩ := bind_some hp
    try dsimp only at hp
    refine e_callS (st := []) (as := [.int (a1)]) f138_12 (by decide) rfl rfl (Nat.le_of_ble_eq_true rfl) (Nat.le_of_ble_eq_true rfl) (p167_ok (d + 1) (h) w (a1) r4 hr5) ?_
    show ex _ 138 (15, [some (.ref (32)), some (.int (a0)), some (.int (a1)), some (.int (a2))], [.int (r4)], h) = _
    by_cases hc6 : (r4) = (0 : Int32)
    · rw [if_pos hc6] at hp
      refine e_if_eq_t f138_15 hc6 ?_
      refine e_bipush (v := -2) f138_27 (by decide) ?_
      have hp := Option.some.inj hp
      subst hp
      exact e_ireturn f138_29 (Or.inl rfl)
    · rw [if_neg hc6] at hp
      refine e_if_eq_f f138_15 hc6 ?_
      refine e_iload_n f138_18 rfl ?_
      refine e_iconst (v := 0) f138_19 (by decide) ?_
      refine e_iconst (v := 1) f138_20 (by decide) ?_
      obtain ⟨r7, hr8, hp⟩ := bind_some hp
      try dsimp only at hp
      refine e_callS (st := []) (as := [.int (a2), .int (0), .int (1)]) f138_21 (by decide) rfl rfl (Nat.le_of_ble_eq_true rfl) (Nat.le_of_ble_eq_true rfl) (p166_ok (d + 2) (h) w (a2) (0) (1) r7 hr8) ?_
      show ex _ 138 (24, [some (.ref (32)), some (.int (a0)), some (.int (a1)), some (.int (a2))], [.int (r7)], h) = _
      by_cases hc9 : (r7) = (0 : Int32)
      · rw [if_pos hc9] at hp
        refine e_if_ne_f f138_24 hc9 ?_
        refine e_bipush (v := -2) f138_27 (by decide) ?_
        have hp := Option.some.inj hp
        subst hp
        exact e_ireturn f138_29 (Or.inl rfl)
      · rw [if_neg hc9] at hp
        refine e_if_ne_t f138_24 hc9 ?_
        refine e_iload_n f138_30 rfl ?_
        refine e_iconst (v := 1) f138_31 (by decide) ?_
        by_cases hc10 : (a2) = ((1) : Int32)
        · rw [if_pos hc10] at hp
          refine e_icmp_ne_f f138_32 hc10 ?_
          refine e_aload_n f138_35 rfl ?_
          refine e_getR f138_36 (WF.t w 32 (by decide)) rfl (WF.r (q := 50) w 32 8 (by decide)) ?_
          refine e_iload_n f138_39 rfl ?_
          refine e_iload_n f138_40 rfl ?_
          obtain ⟨r11, hr12, hp⟩ := bind_some hp
          try dsimp only at hp
          refine e_callV (st := []) (o := 50) (as := [.int (a0), .int (a1)]) f138_41 (by decide) rfl rfl (Nat.le_of_ble_eq_true rfl) (WF.t w 50 (by decide)) (Nat.le_of_ble_eq_true rfl) (p21_ok (d + 1) F (h) w (a0) (a1) r11 hr12) ?_
          show ex _ 138 (44, [some (.ref (32)), some (.int (a0)), some (.int (a1)), some (.int (a2))], [.int (r11)], h) = _
          have hp := Option.some.inj hp
          subst hp
          exact e_ireturn f138_44 (Or.inl rfl)
        · rw [if_neg hc10] at hp
          refine e_icmp_ne_t f138_32 hc10 ?_
          refine e_aload_n f138_45 rfl ?_
          refine e_getR f138_46 (WF.t w 32 (by decide)) rfl (WF.r (q := 50) w 32 8 (by decide)) ?_
          refine e_iload_n f138_49 rfl ?_
          refine e_iload_n f138_50 rfl ?_
          obtain ⟨r13, hr14, hp⟩ := bind_some hp
          try dsimp only at hp
          refine e_callV (st := []) (o := 50) (as := [.int (a0), .int (a1)]) f138_51 (by decide) rfl rfl (Nat.le_of_ble_eq_true rfl) (WF.t w 50 (by decide)) (Nat.le_of_ble_eq_true rfl) (p20_ok d F (h) w (a0) (a1) r13 hr14) ?_
          show ex _ 138 (54, [some (.ref (32)), some (.int (a0)), some (.int (a1)), some (.int (a2))], [.int (r13)], h) = _
          by_cases hc15 : (r13) = (0 : Int32)
          · rw [if_pos hc15] at hp
            refine e_if_eq_t f138_54 hc15 ?_
            refine e_iconst (v := 0) f138_61 (by decide) ?_
            have hp := Option.some.inj hp
            subst hp
            exact e_ireturn f138_62 (Or.inl rfl)
          · rw [if_neg hc15] at hp
            refine e_if_eq_f f138_54 hc15 ?_
            refine e_iconst (v := 1) f138_57 (by decide) ?_
            refine e_goto f138_58 ?_
            have hp := Option.some.inj hp
            subst hp
            exact e_ireturn f138_62 (Or.inl rfl)
theorem f139_0 : fetch 139 0 = some (.iload_n 1, 0, 0, 0) := rfl
theorem f139_1 : fetch 139 1 = some (.iconst 0, 0, 0, 0) := rfl
theorem f139_2 : fetch 139 2 = some (.bipush 31, 0, 0, 0) := rfl
theorem f139_4 : fetch 139 4 = some (.invokestatic 91, 166, 3, 1) := rfl
theorem f139_7 : fetch 139 7 = some (.ifCond .eq 14, 21, 0, 0) := rfl
theorem f139_10 : fetch 139 10 = some (.iload_n 2, 0, 0, 0) := rfl
theorem f139_11 : fetch 139 11 = some (.iconst 0, 0, 0, 0) := rfl
theorem f139_12 : fetch 139 12 = some (.sipush 999, 0, 0, 0) := rfl
theorem f139_15 : fetch 139 15 = some (.invokestatic 91, 166, 3, 1) := rfl
theorem f139_18 : fetch 139 18 = some (.ifCond .ne 5, 23, 0, 0) := rfl
theorem f139_21 : fetch 139 21 = some (.iconst (-1), 0, 0, 0) := rfl
theorem f139_22 : fetch 139 22 = some (.ireturn, 0, 0, 0) := rfl
theorem f139_23 : fetch 139 23 = some (.aload_n 0, 0, 0, 0) := rfl
theorem f139_24 : fetch 139 24 = some (.getfield 38, 11, 8, 2) := rfl
theorem f139_27 : fetch 139 27 = some (.getfield 295, 0, 6, 2) := rfl
theorem f139_30 : fetch 139 30 = some (.iload_n 1, 0, 0, 0) := rfl
theorem f139_31 : fetch 139 31 = some (.iaload, 0, 0, 0) := rfl
theorem f139_32 : fetch 139 32 = some (.istore_n 3, 0, 0, 0) := rfl
theorem f139_33 : fetch 139 33 = some (.aload_n 0, 0, 0, 0) := rfl
theorem f139_34 : fetch 139 34 = some (.getfield 38, 11, 8, 2) := rfl
theorem f139_37 : fetch 139 37 = some (.getfield 295, 0, 6, 2) := rfl
theorem f139_40 : fetch 139 40 = some (.iload_n 1, 0, 0, 0) := rfl
theorem f139_41 : fetch 139 41 = some (.iload_n 2, 0, 0, 0) := rfl
theorem f139_42 : fetch 139 42 = some (.iastore, 0, 0, 0) := rfl
theorem f139_43 : fetch 139 43 = some (.iload_n 3, 0, 0, 0) := rfl
theorem f139_44 : fetch 139 44 = some (.ireturn, 0, 0, 0) := rfl
set_option maxRecDepth 100000 in
set_option maxHeartbeats 4000000 in
theorem p139_ok (d : Nat) (h : HS) (w : WF h) (a0 : Int32) (a1 : Int32) (r : Int32 × HS) (hp : p139 h a0 a1 = some r) : ex (d + 1) 139 (ent 139 [.ref (32), .int (a0), .int (a1)] h) = some (some (.int (r.1)), r.2) := by
  rw [show ent 139 [.ref (32), .int (a0), .int (a1)] h = (0, [some (.ref (32)), some (.int (a0)), some (.int (a1)), none], [], h) from by  rfl]
  refine ex_weak (ls := [some (.ref (32)), some (.int (a0)), some (.int (a1)), none]) (le2_ok ⟨Or.inr rfl, Or.inr rfl, Or.inr rfl, Or.inr rfl, trivial⟩) ?_
  unfold p139 at hp
  refine e_iload_n f139_0 rfl ?_
  refine e_iconst (v := 0) f139_1 (by decide) ?_
  refine e_bipush (v := 31) f139_2 (by decide) ?_
  obtain ⟨r1, hr2, hp⟩ := bind_some hp
  try dsimp only at hp
  refine e_callS (st := []) (as := [.int (a0), .int (0), .int (31)]) f139_4 (by decide) rfl rfl (Nat.le_of_ble_eq_true rfl) (Nat.le_of_ble_eq_true rfl) (p166_ok d (h) w (a0) (0) (31) r1 hr2) ?_
  show ex _ 139 (7, [some (.ref (32)), some (.int (a0)), some (.int (a1)), none], [.int (r1)], h) = _
  by_cases hc3 : (r1) = (0 : Int32)
  · rw [if_pos hc3] at hp
    refine e_if_eq_t f139_7 hc3 ?_
    refine e_iconst (v := -1) f139_21 (by decide) ?_
    have hp := Option.some.inj hp
    subst hp
    exact e_ireturn f139_22 (Or.inl rfl)
  · rw [if_neg hc3] at hp
    refine e_if_eq_f f139_7 hc3 ?_
    refine e_iload_n f139_10 rfl ?_
    refine e_iconst (v := 0) f139_11 (by decide) ?_
    refine e_sipush (v := 999) f139_12 (by decide) ?_
    obtain ⟨r4, hr5, hp⟩ := bind_some hp
    try dsimp only at hp
    refine e_callS (st := []) (as := [.int (a1), .int (0), .int (999)]) f139_15 (by decide) rfl rfl (Nat.le_of_ble_eq_true rfl) (Nat.le_of_ble_eq_true rfl) (p166_ok d (h) w (a1) (0) (999) r4 hr5) ?_
    show ex _ 139 (18, [some (.ref (32)), some (.int (a0)), some (.int (a1)), none], [.int (r4)], h) = _
    by_cases hc6 : (r4) = (0 : Int32)
    · rw [if_pos hc6] at hp
      refine e_if_ne_f f139_18 hc6 ?_
      refine e_iconst (v := -1) f139_21 (by decide) ?_
      have hp := Option.some.inj hp
      subst hp
      exact e_ireturn f139_22 (Or.inl rfl)
    · rw [if_neg hc6] at hp
      refine e_if_ne_t f139_18 hc6 ?_
      refine e_aload_n f139_23 rfl ?_
      refine e_getR f139_24 (WF.t w 32 (by decide)) rfl (WF.r (q := 50) w 32 8 (by decide)) ?_
      refine e_getR f139_27 (WF.t w 50 (by decide)) rfl (WF.r (q := 52) w 50 6 (by decide)) ?_
      refine e_iload_n f139_30 rfl ?_
      by_cases hg7 : (a0) < (0 : Int32) ∨ 32 ≤ (a0).toNatClampNeg
      · rw [if_pos hg7] at hp; cases hp
      rw [if_neg hg7] at hp
      refine e_iaload f139_31 (Or.inl (WF.t w 52 (by decide))) (WF.n w 52 (by decide)) hg7 ?_
      refine e_istore_n (ls2 := [some (.ref (32)), some (.int (a0)), some (.int (a1)), some (.int (hI (h) (52) (a0).toNatClampNeg))]) f139_32 (Nat.le_of_ble_eq_true rfl) rfl ?_
      refine e_aload_n f139_33 rfl ?_
      refine e_getR f139_34 (WF.t w 32 (by decide)) rfl (WF.r (q := 50) w 32 8 (by decide)) ?_
      refine e_getR f139_37 (WF.t w 50 (by decide)) rfl (WF.r (q := 52) w 50 6 (by decide)) ?_
      refine e_iload_n f139_40 rfl ?_
      refine e_iload_n f139_41 rfl ?_
      by_cases hg8 : (a0) < (0 : Int32) ∨ 32 ≤ (a0).toNatClampNeg
      · rw [if_pos hg8] at hp; cases hp
      rw [if_neg hg8] at hp
      refine e_iastore f139_42 (WF.t w 52 (by decide)) (WF.n w 52 (by decide)) hg8 ?_
      refine e_iload_n f139_43 rfl ?_
      have hp := Option.some.inj hp
      subst hp
      exact e_ireturn f139_44 (Or.inl rfl)
set_option maxRecDepth 100000 in
set_option maxHeartbeats 4000000 in
theorem p139_w (h : HS) (w : WF h) (a0 : Int32) (a1 : Int32) (r : Int32 × HS) (hp : p139 h a0 a1 = some r) : WF r.2 := by
  unfold p139 at hp
  obtain ⟨r1, hr2, hp⟩ := bind_some hp
  try dsimp only at hp
  by_cases hc3 : (r1) = (0 : Int32)
  · rw [if_pos hc3] at hp
    have hp := Option.some.inj hp
    subst hp
    exact (w)
  · rw [if_neg hc3] at hp
    obtain ⟨r4, hr5, hp⟩ := bind_some hp
    try dsimp only at hp
    by_cases hc6 : (r4) = (0 : Int32)
    · rw [if_pos hc6] at hp
      have hp := Option.some.inj hp
      subst hp
      exact (w)
    · rw [if_neg hc6] at hp
      by_cases hg7 : (a0) < (0 : Int32) ∨ 32 ≤ (a0).toNatClampNeg
      · rw [if_pos hg7] at hp; cases hp
      rw [if_neg hg7] at hp
      by_cases hg8 : (a0) < (0 : Int32) ∨ 32 ≤ (a0).toNatClampNeg
      · rw [if_pos hg8] at hp; cases hp
      rw [if_neg hg8] at hp
      have hp := Option.some.inj hp
      subst hp
      exact (w)
theorem f140_0 : fetch 140 0 = some (.aload_n 0, 0, 0, 0) := rfl
theorem f140_1 : fetch 140 1 = some (.iload_n 1, 0, 0, 0) := rfl
theorem f140_2 : fetch 140 2 = some (.invokevirtual 158, 171, 1, 0) := rfl
theorem f140_5 : fetch 140 5 = some (.astore 5, 0, 0, 0) := rfl
theorem f140_7 : fetch 140 7 = some (.aload 5, 0, 0, 0) := rfl
theorem f140_9 : fetch 140 9 = some (.ifnull 50, 59, 0, 0) := rfl
theorem f140_12 : fetch 140 12 = some (.aload_n 0, 0, 0, 0) := rfl
theorem f140_13 : fetch 140 13 = some (.getfield 38, 11, 8, 2) := rfl
theorem f140_16 : fetch 140 16 = some (.getfield 298, 0, 4, 0) := rfl
theorem f140_19 : fetch 140 19 = some (.sipush 200, 0, 0, 0) := rfl
theorem f140_22 : fetch 140 22 = some (.if_icmp .ge 37, 59, 0, 0) := rfl
theorem f140_25 : fetch 140 25 = some (.aload_n 0, 0, 0, 0) := rfl
theorem f140_26 : fetch 140 26 = some (.getfield 38, 11, 8, 2) := rfl
theorem f140_29 : fetch 140 29 = some (.iload_n 2, 0, 0, 0) := rfl
theorem f140_30 : fetch 140 30 = some (.invokevirtual 242, 2, 1, 0) := rfl
theorem f140_33 : fetch 140 33 = some (.ifCond .eq 26, 59, 0, 0) := rfl
theorem f140_36 : fetch 140 36 = some (.iload_n 3, 0, 0, 0) := rfl
theorem f140_37 : fetch 140 37 = some (.iconst 1, 0, 0, 0) := rfl
theorem f140_38 : fetch 140 38 = some (.sipush 9999, 0, 0, 0) := rfl
theorem f140_41 : fetch 140 41 = some (.invokestatic 91, 166, 3, 1) := rfl
theorem f140_44 : fetch 140 44 = some (.ifCond .eq 15, 59, 0, 0) := rfl
theorem f140_47 : fetch 140 47 = some (.iload 4, 0, 0, 0) := rfl
theorem f140_49 : fetch 140 49 = some (.iconst 0, 0, 0, 0) := rfl
theorem f140_50 : fetch 140 50 = some (.sipush 9999, 0, 0, 0) := rfl
theorem f140_53 : fetch 140 53 = some (.invokestatic 91, 166, 3, 1) := rfl
theorem f140_56 : fetch 140 56 = some (.ifCond .ne 5, 61, 0, 0) := rfl
theorem f140_59 : fetch 140 59 = some (.iconst (-1), 0, 0, 0) := rfl
theorem f140_60 : fetch 140 60 = some (.ireturn, 0, 0, 0) := rfl
theorem f140_61 : fetch 140 61 = some (.new 205, 5, 10, 0) := rfl
theorem f140_64 : fetch 140 64 = some (.dup, 0, 0, 0) := rfl
theorem f140_65 : fetch 140 65 = some (.aload 5, 0, 0, 0) := rfl
theorem f140_67 : fetch 140 67 = some (.aload_n 0, 0, 0, 0) := rfl
theorem f140_68 : fetch 140 68 = some (.getfield 88, 11, 0, 0) := rfl
theorem f140_71 : fetch 140 71 = some (.invokespecial 207, 67, 2, 3) := rfl
theorem f140_74 : fetch 140 74 = some (.astore 6, 0, 0, 0) := rfl
theorem f140_76 : fetch 140 76 = some (.aload 6, 0, 0, 0) := rfl
theorem f140_78 : fetch 140 78 = some (.iload_n 2, 0, 0, 0) := rfl
theorem f140_79 : fetch 140 79 = some (.putfield 245, 5, 3, 0) := rfl
theorem f140_82 : fetch 140 82 = some (.aload 6, 0, 0, 0) := rfl
theorem f140_84 : fetch 140 84 = some (.iload_n 3, 0, 0, 0) := rfl
theorem f140_85 : fetch 140 85 = some (.putfield 301, 5, 7, 0) := rfl
theorem f140_88 : fetch 140 88 = some (.aload 6, 0, 0, 0) := rfl
theorem f140_90 : fetch 140 90 = some (.iload 4, 0, 0, 0) := rfl
theorem f140_92 : fetch 140 92 = some (.putfield 216, 5, 8, 0) := rfl
theorem f140_95 : fetch 140 95 = some (.aload 5, 0, 0, 0) := rfl
theorem f140_97 : fetch 140 97 = some (.dup, 0, 0, 0) := rfl
theorem f140_98 : fetch 140 98 = some (.getfield 190, 9, 6, 0) := rfl
theorem f140_101 : fetch 140 101 = some (.iconst 1, 0, 0, 0) := rfl
theorem f140_102 : fetch 140 102 = some (.iadd, 0, 0, 0) := rfl
theorem f140_103 : fetch 140 103 = some (.putfield 190, 9, 6, 0) := rfl
theorem f140_106 : fetch 140 106 = some (.aload_n 0, 0, 0, 0) := rfl
theorem f140_107 : fetch 140 107 = some (.getfield 38, 11, 8, 2) := rfl
theorem f140_110 : fetch 140 110 = some (.aload 6, 0, 0, 0) := rfl
theorem f140_112 : fetch 140 112 = some (.invokevirtual 304, 8, 1, 0) := rfl
theorem f140_115 : fetch 140 115 = some (.ireturn, 0, 0, 0) := rfl
set_option maxRecDepth 100000 in
set_option maxHeartbeats 4000000 in
theorem p140_ok (d : Nat) (h : HS) (w : WF h) (a0 : Int32) (a1 : Int32) (a2 : Int32) (a3 : Int32) (r : Int32 × HS) (hp : p140 h a0 a1 a2 a3 = some r) : ex (d + 3) 140 (ent 140 [.ref (32), .int (a0), .int (a1), .int (a2), .int (a3)] h) = some (some (.int (r.1)), r.2) := by
  rw [show ent 140 [.ref (32), .int (a0), .int (a1), .int (a2), .int (a3)] h = (0, [some (.ref (32)), some (.int (a0)), some (.int (a1)), some (.int (a2)), some (.int (a3)), none, none], [], h) from by  rfl]
  refine ex_weak (ls := [some (.ref (32)), some (.int (a0)), some (.int (a1)), some (.int (a2)), some (.int (a3)), none, none]) (le2_ok ⟨Or.inr rfl, Or.inr rfl, Or.inr rfl, Or.inr rfl, Or.inr rfl, Or.inr rfl, Or.inr rfl, trivial⟩) ?_
  unfold p140 at hp
  refine e_aload_n f140_0 rfl ?_
  refine e_iload_n f140_1 rfl ?_
  obtain ⟨r1, hr2, hp⟩ := bind_some hp
  try dsimp only at hp
  refine e_callV (st := []) (o := 32) (as := [.int (a0)]) f140_2 (by decide) rfl rfl (Nat.le_of_ble_eq_true rfl) (WF.t w 32 (by decide)) (Nat.le_of_ble_eq_true rfl) (p171_ok d (h) w (a0) r1 hr2) ?_
  show ex _ 140 (5, [some (.ref (32)), some (.int (a0)), some (.int (a1)), some (.int (a2)), some (.int (a3)), none, none], [va_rf (r1)], h) = _
  refine e_qstore (ls2 := [some (.ref (32)), some (.int (a0)), some (.int (a1)), some (.int (a2)), some (.int (a3)), some (va_rf (r1)), none]) f140_5 (Nat.le_of_ble_eq_true rfl) rfl ?_
  refine e_qload f140_7 rfl ?_
  by_cases hc3 : (r1) = none
  · rw [if_pos hc3] at hp
    rw [hc3]
    refine e_ifnull_t f140_9 ?_
    refine e_iconst (v := -1) f140_59 (by decide) ?_
    have hp := Option.some.inj hp
    subst hp
    exact e_ireturn f140_60 (Or.inl rfl)
  · rw [if_neg hc3] at hp
    obtain ⟨o4, ho5, hp⟩ := bind_some hp
    try dsimp only at hp
    rw [ho5]
    refine e_ifnull_f f140_9 ?_
    refine e_aload_n f140_12 rfl ?_
    refine e_getR f140_13 (WF.t w 32 (by decide)) rfl (WF.r (q := 50) w 32 8 (by decide)) ?_
    refine e_getI f140_16 (WF.t w 50 (by decide)) (by decide) ?_
    refine e_sipush (v := 200) f140_19 (by decide) ?_
    by_cases hc6 : (hI (h) (50) 4) < ((200) : Int32)
    · rw [if_pos hc6] at hp
      refine e_icmp_ge_f f140_22 hc6 ?_
      refine e_aload_n f140_25 rfl ?_
      refine e_getR f140_26 (WF.t w 32 (by decide)) rfl (WF.r (q := 50) w 32 8 (by decide)) ?_
      refine e_iload_n f140_29 rfl ?_
      obtain ⟨r7, hr8, hp⟩ := bind_some hp
      try dsimp only at hp
      refine e_callV (st := []) (o := 50) (as := [.int (a1)]) f140_30 (by decide) rfl rfl (Nat.le_of_ble_eq_true rfl) (WF.t w 50 (by decide)) (Nat.le_of_ble_eq_true rfl) (p2_ok (d + 1) (h) w (a1) r7 hr8) ?_
      show ex _ 140 (33, [some (.ref (32)), some (.int (a0)), some (.int (a1)), some (.int (a2)), some (.int (a3)), some (.ref (o4)), none], [.int (r7)], h) = _
      by_cases hc9 : (r7) = (0 : Int32)
      · rw [if_pos hc9] at hp
        refine e_if_eq_t f140_33 hc9 ?_
        refine e_iconst (v := -1) f140_59 (by decide) ?_
        have hp := Option.some.inj hp
        subst hp
        exact e_ireturn f140_60 (Or.inl rfl)
      · rw [if_neg hc9] at hp
        refine e_if_eq_f f140_33 hc9 ?_
        refine e_iload_n f140_36 rfl ?_
        refine e_iconst (v := 1) f140_37 (by decide) ?_
        refine e_sipush (v := 9999) f140_38 (by decide) ?_
        obtain ⟨r10, hr11, hp⟩ := bind_some hp
        try dsimp only at hp
        refine e_callS (st := []) (as := [.int (a2), .int (1), .int (9999)]) f140_41 (by decide) rfl rfl (Nat.le_of_ble_eq_true rfl) (Nat.le_of_ble_eq_true rfl) (p166_ok (d + 2) (h) w (a2) (1) (9999) r10 hr11) ?_
        show ex _ 140 (44, [some (.ref (32)), some (.int (a0)), some (.int (a1)), some (.int (a2)), some (.int (a3)), some (.ref (o4)), none], [.int (r10)], h) = _
        by_cases hc12 : (r10) = (0 : Int32)
        · rw [if_pos hc12] at hp
          refine e_if_eq_t f140_44 hc12 ?_
          refine e_iconst (v := -1) f140_59 (by decide) ?_
          have hp := Option.some.inj hp
          subst hp
          exact e_ireturn f140_60 (Or.inl rfl)
        · rw [if_neg hc12] at hp
          refine e_if_eq_f f140_44 hc12 ?_
          refine e_iload f140_47 rfl ?_
          refine e_iconst (v := 0) f140_49 (by decide) ?_
          refine e_sipush (v := 9999) f140_50 (by decide) ?_
          obtain ⟨r13, hr14, hp⟩ := bind_some hp
          try dsimp only at hp
          refine e_callS (st := []) (as := [.int (a3), .int (0), .int (9999)]) f140_53 (by decide) rfl rfl (Nat.le_of_ble_eq_true rfl) (Nat.le_of_ble_eq_true rfl) (p166_ok (d + 2) (h) w (a3) (0) (9999) r13 hr14) ?_
          show ex _ 140 (56, [some (.ref (32)), some (.int (a0)), some (.int (a1)), some (.int (a2)), some (.int (a3)), some (.ref (o4)), none], [.int (r13)], h) = _
          by_cases hc15 : (r13) = (0 : Int32)
          · rw [if_pos hc15] at hp
            refine e_if_ne_f f140_56 hc15 ?_
            refine e_iconst (v := -1) f140_59 (by decide) ?_
            have hp := Option.some.inj hp
            subst hp
            exact e_ireturn f140_60 (Or.inl rfl)
          · rw [if_neg hc15] at hp
            refine e_if_ne_t f140_56 hc15 ?_
            refine e_new f140_61 ?_
            obtain ⟨h16, e17, hp⟩ := bind_some hp
            try dsimp only at hp
            have e17 := Option.some.inj e17
            have w18 : WF h16 := e17 ▸ (WF.nw (t := 5) (n := 10) (f := fun _ => 0) w)
            rw [e17]
            refine e_dup f140_64 rfl ?_
            refine e_aload f140_65 rfl ?_
            refine e_aload_n f140_67 rfl ?_
            refine e_getI f140_68 (WF.t w18 32 (by decide)) (by decide) ?_
            obtain ⟨r19, hr20, hp⟩ := bind_some hp
            try dsimp only at hp
            refine e_callI (st := [.ref ((h).1)]) (o := (h).1) (as := [.ref (o4), .int (hI (h16) (32) 0)]) f140_71 (by decide) rfl rfl (Nat.le_of_ble_eq_true rfl) (by rw [← e17]; exact (hT_new _ _ _ _)) (Nat.le_of_ble_eq_true rfl) (p67_ok (d + 2) (h16) w18 ((h).1) (some (o4)) (hI (h16) (32) 0) (by rw [← e17]; exact (hT_new _ _ _ _)) r19 hr20) ?_
            show ex _ 140 (74, [some (.ref (32)), some (.int (a0)), some (.int (a1)), some (.int (a2)), some (.int (a3)), some (.ref (o4)), none], [.ref ((h).1)], r19) = _
            refine e_astore (ls2 := [some (.ref (32)), some (.int (a0)), some (.int (a1)), some (.int (a2)), some (.int (a3)), some (.ref (o4)), some (.ref ((h).1))]) f140_74 (Nat.le_of_ble_eq_true rfl) rfl ?_
            refine e_aload f140_76 rfl ?_
            refine e_iload_n f140_78 rfl ?_
            by_cases hg21 : hT (r19) ((h).1) = 5
            rotate_left
            · rw [if_neg hg21] at hp; cases hp
            rw [if_pos hg21] at hp
            refine e_putI f140_79 hg21 rfl ?_
            refine e_aload f140_82 rfl ?_
            refine e_iload_n f140_84 rfl ?_
            refine e_putI f140_85 hg21 rfl ?_
            refine e_aload f140_88 rfl ?_
            refine e_iload f140_90 rfl ?_
            refine e_putI f140_92 hg21 rfl ?_
            refine e_aload f140_95 rfl ?_
            refine e_dup f140_97 rfl ?_
            by_cases hg22 : hT (hsI (hsI (hsI (r19) ((h).1) 3 (a1)) ((h).1) 7 (a2)) ((h).1) 8 (a3)) (o4) = 9
            rotate_left
            · rw [if_neg hg22] at hp; cases hp
            rw [if_pos hg22] at hp
            refine e_getI f140_98 hg22 (by decide) ?_
            refine e_iconst (v := 1) f140_101 (by decide) ?_
            refine e_iadd f140_102 ?_
            refine e_putI f140_103 hg22 rfl ?_
            obtain ⟨h23, e24, hp⟩ := bind_some hp
            try dsimp only at hp
            have e24 := Option.some.inj e24
            have w25 : WF h23 := e24 ▸ (p67_w (h16) w18 ((h).1) (some (o4)) (hI (h16) (32) 0) (by rw [← e17]; exact (hT_new _ _ _ _))  r19 hr20)
            rw [e24]
            refine e_aload_n f140_106 rfl ?_
            refine e_getR f140_107 (WF.t w25 32 (by decide)) rfl (WF.r (q := 50) w25 32 8 (by decide)) ?_
            refine e_aload f140_110 rfl ?_
            obtain ⟨r26, hr27, hp⟩ := bind_some hp
            try dsimp only at hp
            refine e_callV (st := []) (o := 50) (as := [.ref ((h).1)]) f140_112 (by decide) rfl rfl (Nat.le_of_ble_eq_true rfl) (WF.t w25 50 (by decide)) (Nat.le_of_ble_eq_true rfl) (p8_ok (d + 2) (h23) w25 (some ((h).1)) r26 hr27) ?_
            show ex _ 140 (115, [some (.ref (32)), some (.int (a0)), some (.int (a1)), some (.int (a2)), some (.int (a3)), some (.ref (o4)), some (.ref ((h).1))], [.int (r26.1)], r26.2) = _
            have hp := Option.some.inj hp
            subst hp
            exact e_ireturn f140_115 (Or.inl rfl)
    · rw [if_neg hc6] at hp
      refine e_icmp_ge_t f140_22 hc6 ?_
      refine e_iconst (v := -1) f140_59 (by decide) ?_
      have hp := Option.some.inj hp
      subst hp
      exact e_ireturn f140_60 (Or.inl rfl)
set_option maxRecDepth 100000 in
set_option maxHeartbeats 4000000 in
theorem p140_w (h : HS) (w : WF h) (a0 : Int32) (a1 : Int32) (a2 : Int32) (a3 : Int32) (r : Int32 × HS) (hp : p140 h a0 a1 a2 a3 = some r) : WF r.2 := by
  unfold p140 at hp
  obtain ⟨r1, hr2, hp⟩ := bind_some hp
  try dsimp only at hp
  by_cases hc3 : (r1) = none
  · rw [if_pos hc3] at hp
    have hp := Option.some.inj hp
    subst hp
    exact (w)
  · rw [if_neg hc3] at hp
    obtain ⟨o4, ho5, hp⟩ := bind_some hp
    try dsimp only at hp
    by_cases hc6 : (hI (h) (50) 4) < ((200) : Int32)
    · rw [if_pos hc6] at hp
      obtain ⟨r7, hr8, hp⟩ := bind_some hp
      try dsimp only at hp
      by_cases hc9 : (r7) = (0 : Int32)
      · rw [if_pos hc9] at hp
        have hp := Option.some.inj hp
        subst hp
        exact (w)
      · rw [if_neg hc9] at hp
        obtain ⟨r10, hr11, hp⟩ := bind_some hp
        try dsimp only at hp
        by_cases hc12 : (r10) = (0 : Int32)
        · rw [if_pos hc12] at hp
          have hp := Option.some.inj hp
          subst hp
          exact (w)
        · rw [if_neg hc12] at hp
          obtain ⟨r13, hr14, hp⟩ := bind_some hp
          try dsimp only at hp
          by_cases hc15 : (r13) = (0 : Int32)
          · rw [if_pos hc15] at hp
            have hp := Option.some.inj hp
            subst hp
            exact (w)
          · rw [if_neg hc15] at hp
            obtain ⟨h16, e17, hp⟩ := bind_some hp
            try dsimp only at hp
            have e17 := Option.some.inj e17
            have w18 : WF h16 := e17 ▸ (WF.nw (t := 5) (n := 10) (f := fun _ => 0) w)
            obtain ⟨r19, hr20, hp⟩ := bind_some hp
            try dsimp only at hp
            by_cases hg21 : hT (r19) ((h).1) = 5
            rotate_left
            · rw [if_neg hg21] at hp; cases hp
            rw [if_pos hg21] at hp
            by_cases hg22 : hT (hsI (hsI (hsI (r19) ((h).1) 3 (a1)) ((h).1) 7 (a2)) ((h).1) 8 (a3)) (o4) = 9
            rotate_left
            · rw [if_neg hg22] at hp; cases hp
            rw [if_pos hg22] at hp
            obtain ⟨h23, e24, hp⟩ := bind_some hp
            try dsimp only at hp
            have e24 := Option.some.inj e24
            have w25 : WF h23 := e24 ▸ (p67_w (h16) w18 ((h).1) (some (o4)) (hI (h16) (32) 0) (by rw [← e17]; exact (hT_new _ _ _ _))  r19 hr20)
            obtain ⟨r26, hr27, hp⟩ := bind_some hp
            try dsimp only at hp
            have hp := Option.some.inj hp
            subst hp
            exact ((p8_w (h23) w25 (some ((h).1))  r26 hr27))
    · rw [if_neg hc6] at hp
      have hp := Option.some.inj hp
      subst hp
      exact (w)
theorem f141_0 : fetch 141 0 = some (.iload_n 1, 0, 0, 0) := rfl
theorem f141_1 : fetch 141 1 = some (.iconst 0, 0, 0, 0) := rfl
theorem f141_2 : fetch 141 2 = some (.bipush 9, 0, 0, 0) := rfl
theorem f141_4 : fetch 141 4 = some (.invokestatic 91, 166, 3, 1) := rfl
theorem f141_7 : fetch 141 7 = some (.ifCond .eq 22, 29, 0, 0) := rfl
theorem f141_10 : fetch 141 10 = some (.iload_n 2, 0, 0, 0) := rfl
theorem f141_11 : fetch 141 11 = some (.invokestatic 260, 167, 1, 1) := rfl
theorem f141_14 : fetch 141 14 = some (.ifCond .eq 15, 29, 0, 0) := rfl
theorem f141_17 : fetch 141 17 = some (.aload_n 0, 0, 0, 0) := rfl
theorem f141_18 : fetch 141 18 = some (.getfield 38, 11, 8, 2) := rfl
theorem f141_21 : fetch 141 21 = some (.iload_n 1, 0, 0, 0) := rfl
theorem f141_22 : fetch 141 22 = some (.iload_n 2, 0, 0, 0) := rfl
theorem f141_23 : fetch 141 23 = some (.invokevirtual 307, 22, 2, 0) := rfl
theorem f141_26 : fetch 141 26 = some (.goto 6, 32, 0, 0) := rfl
theorem f141_29 : fetch 141 29 = some (.ldc_w 310, 0, 0, -2000000000) := rfl
theorem f141_32 : fetch 141 32 = some (.ireturn, 0, 0, 0) := rfl
set_option maxRecDepth 100000 in
set_option maxHeartbeats 4000000 in
theorem p141_ok (d : Nat) (F : Nat) (h : HS) (w : WF h) (a0 : Int32) (a1 : Int32) (r : Int32) (hp : p141 F h a0 a1 = some r) : ex (d + 4) 141 (ent 141 [.ref (32), .int (a0), .int (a1)] h) = some (some (.int (r)), h) := by
  rw [show ent 141 [.ref (32), .int (a0), .int (a1)] h = (0, [some (.ref (32)), some (.int (a0)), some (.int (a1))], [], h) from by  rfl]
  refine ex_weak (ls := [some (.ref (32)), some (.int (a0)), some (.int (a1))]) (le2_ok ⟨Or.inr rfl, Or.inr rfl, Or.inr rfl, trivial⟩) ?_
  unfold p141 at hp
  refine e_iload_n f141_0 rfl ?_
  refine e_iconst (v := 0) f141_1 (by decide) ?_
  refine e_bipush (v := 9) f141_2 (by decide) ?_
  obtain ⟨r1, hr2, hp⟩ := bind_some hp
  try dsimp only at hp
  refine e_callS (st := []) (as := [.int (a0), .int (0), .int (9)]) f141_4 (by decide) rfl rfl (Nat.le_of_ble_eq_true rfl) (Nat.le_of_ble_eq_true rfl) (p166_ok (d + 3) (h) w (a0) (0) (9) r1 hr2) ?_
  show ex _ 141 (7, [some (.ref (32)), some (.int (a0)), some (.int (a1))], [.int (r1)], h) = _
  by_cases hc3 : (r1) = (0 : Int32)
  · rw [if_pos hc3] at hp
    refine e_if_eq_t f141_7 hc3 ?_
    refine e_ldcw (v := -2000000000) f141_29 (by decide) (by decide) ?_
    have hp := Option.some.inj hp
    subst hp
    exact e_ireturn f141_32 (Or.inl rfl)
  · rw [if_neg hc3] at hp
    refine e_if_eq_f f141_7 hc3 ?_
    refine e_iload_n f141_10 rfl ?_
    obtain ⟨r4, hr5, hp⟩ := bind_some hp
    try dsimp only at hp
    refine e_callS (st := []) (as := [.int (a1)]) f141_11 (by decide) rfl rfl (Nat.le_of_ble_eq_true rfl) (Nat.le_of_ble_eq_true rfl) (p167_ok (d + 2) (h) w (a1) r4 hr5) ?_
    show ex _ 141 (14, [some (.ref (32)), some (.int (a0)), some (.int (a1))], [.int (r4)], h) = _
    by_cases hc6 : (r4) = (0 : Int32)
    · rw [if_pos hc6] at hp
      refine e_if_eq_t f141_14 hc6 ?_
      refine e_ldcw (v := -2000000000) f141_29 (by decide) (by decide) ?_
      have hp := Option.some.inj hp
      subst hp
      exact e_ireturn f141_32 (Or.inl rfl)
    · rw [if_neg hc6] at hp
      refine e_if_eq_f f141_14 hc6 ?_
      refine e_aload_n f141_17 rfl ?_
      refine e_getR f141_18 (WF.t w 32 (by decide)) rfl (WF.r (q := 50) w 32 8 (by decide)) ?_
      refine e_iload_n f141_21 rfl ?_
      refine e_iload_n f141_22 rfl ?_
      obtain ⟨r7, hr8, hp⟩ := bind_some hp
      try dsimp only at hp
      refine e_callV (st := []) (o := 50) (as := [.int (a0), .int (a1)]) f141_23 (by decide) rfl rfl (Nat.le_of_ble_eq_true rfl) (WF.t w 50 (by decide)) (Nat.le_of_ble_eq_true rfl) (p22_ok d F (h) w (a0) (a1) r7 hr8) ?_
      show ex _ 141 (26, [some (.ref (32)), some (.int (a0)), some (.int (a1))], [.int (r7)], h) = _
      refine e_goto f141_26 ?_
      have hp := Option.some.inj hp
      subst hp
      exact e_ireturn f141_32 (Or.inl rfl)
theorem f142_0 : fetch 142 0 = some (.aload_n 0, 0, 0, 0) := rfl
theorem f142_1 : fetch 142 1 = some (.getfield 45, 11, 9, 2) := rfl
theorem f142_4 : fetch 142 4 = some (.invokevirtual 311, 101, 0, 0) := rfl
theorem f142_7 : fetch 142 7 = some (.ifCond .ne 5, 12, 0, 0) := rfl
theorem f142_10 : fetch 142 10 = some (.iconst (-1), 0, 0, 0) := rfl
theorem f142_11 : fetch 142 11 = some (.ireturn, 0, 0, 0) := rfl
theorem f142_12 : fetch 142 12 = some (.aload_n 0, 0, 0, 0) := rfl
theorem f142_13 : fetch 142 13 = some (.getfield 45, 11, 9, 2) := rfl
theorem f142_16 : fetch 142 16 = some (.iload_n 1, 0, 0, 0) := rfl
theorem f142_17 : fetch 142 17 = some (.invokevirtual 315, 102, 1, 0) := rfl
theorem f142_20 : fetch 142 20 = some (.aload_n 0, 0, 0, 0) := rfl
theorem f142_21 : fetch 142 21 = some (.getfield 45, 11, 9, 2) := rfl
theorem f142_24 : fetch 142 24 = some (.iload_n 2, 0, 0, 0) := rfl
theorem f142_25 : fetch 142 25 = some (.invokevirtual 315, 102, 1, 0) := rfl
theorem f142_28 : fetch 142 28 = some (.aload_n 0, 0, 0, 0) := rfl
theorem f142_29 : fetch 142 29 = some (.getfield 45, 11, 9, 2) := rfl
theorem f142_32 : fetch 142 32 = some (.iload_n 3, 0, 0, 0) := rfl
theorem f142_33 : fetch 142 33 = some (.invokevirtual 315, 102, 1, 0) := rfl
theorem f142_36 : fetch 142 36 = some (.aload_n 0, 0, 0, 0) := rfl
theorem f142_37 : fetch 142 37 = some (.getfield 45, 11, 9, 2) := rfl
theorem f142_40 : fetch 142 40 = some (.iload 4, 0, 0, 0) := rfl
theorem f142_42 : fetch 142 42 = some (.invokevirtual 315, 102, 1, 0) := rfl
theorem f142_45 : fetch 142 45 = some (.aload_n 0, 0, 0, 0) := rfl
theorem f142_46 : fetch 142 46 = some (.getfield 45, 11, 9, 2) := rfl
theorem f142_49 : fetch 142 49 = some (.iload 5, 0, 0, 0) := rfl
theorem f142_51 : fetch 142 51 = some (.invokevirtual 315, 102, 1, 0) := rfl
theorem f142_54 : fetch 142 54 = some (.aload_n 0, 0, 0, 0) := rfl
theorem f142_55 : fetch 142 55 = some (.getfield 45, 11, 9, 2) := rfl
theorem f142_58 : fetch 142 58 = some (.getfield 319, 10, 0, 0) := rfl
theorem f142_61 : fetch 142 61 = some (.ireturn, 0, 0, 0) := rfl
set_option maxRecDepth 100000 in
set_option maxHeartbeats 4000000 in
theorem p142_ok (d : Nat) (F : Nat) (h : HS) (w : WF h) (a0 : Int32) (a1 : Int32) (a2 : Int32) (a3 : Int32) (a4 : Int32) (r : Int32 × HS) (hp : p142 F h a0 a1 a2 a3 a4 = some r) : ex (d + 1) 142 (ent 142 [.ref (32), .int (a0), .int (a1), .int (a2), .int (a3), .int (a4)] h) = some (some (.int (r.1)), r.2) := by
  rw [show ent 142 [.ref (32), .int (a0), .int (a1), .int (a2), .int (a3), .int (a4)] h = (0, [some (.ref (32)), some (.int (a0)), some (.int (a1)), some (.int (a2)), some (.int (a3)), some (.int (a4))], [], h) from by  rfl]
  refine ex_weak (ls := [some (.ref (32)), some (.int (a0)), some (.int (a1)), some (.int (a2)), some (.int (a3)), some (.int (a4))]) (le2_ok ⟨Or.inr rfl, Or.inr rfl, Or.inr rfl, Or.inr rfl, Or.inr rfl, Or.inr rfl, trivial⟩) ?_
  unfold p142 at hp
  refine e_aload_n f142_0 rfl ?_
  refine e_getR f142_1 (WF.t w 32 (by decide)) rfl (WF.r (q := 57) w 32 9 (by decide)) ?_
  obtain ⟨r1, hr2, hp⟩ := bind_some hp
  try dsimp only at hp
  refine e_callV (st := []) (o := 57) (as := []) f142_4 (by decide) rfl rfl (Nat.le_of_ble_eq_true rfl) (WF.t w 57 (by decide)) (Nat.le_of_ble_eq_true rfl) (p101_ok d (h) w r1 hr2) ?_
  show ex _ 142 (7, [some (.ref (32)), some (.int (a0)), some (.int (a1)), some (.int (a2)), some (.int (a3)), some (.int (a4))], [.int (r1)], h) = _
  by_cases hc3 : (r1) = (0 : Int32)
  · rw [if_pos hc3] at hp
    refine e_if_ne_f f142_7 hc3 ?_
    refine e_iconst (v := -1) f142_10 (by decide) ?_
    have hp := Option.some.inj hp
    subst hp
    exact e_ireturn f142_11 (Or.inl rfl)
  · rw [if_neg hc3] at hp
    refine e_if_ne_t f142_7 hc3 ?_
    refine e_aload_n f142_12 rfl ?_
    refine e_getR f142_13 (WF.t w 32 (by decide)) rfl (WF.r (q := 57) w 32 9 (by decide)) ?_
    refine e_iload_n f142_16 rfl ?_
    obtain ⟨r4, hr5, hp⟩ := bind_some hp
    try dsimp only at hp
    refine e_callV (st := []) (o := 57) (as := [.int (a0)]) f142_17 (by decide) rfl rfl (Nat.le_of_ble_eq_true rfl) (WF.t w 57 (by decide)) (Nat.le_of_ble_eq_true rfl) (p102_ok d F (h) w (a0) r4 hr5) ?_
    show ex _ 142 (20, [some (.ref (32)), some (.int (a0)), some (.int (a1)), some (.int (a2)), some (.int (a3)), some (.int (a4))], [], r4) = _
    refine e_aload_n f142_20 rfl ?_
    refine e_getR f142_21 (WF.t (p102_w F (h) w (a0)  r4 hr5) 32 (by decide)) rfl (WF.r (q := 57) (p102_w F (h) w (a0)  r4 hr5) 32 9 (by decide)) ?_
    refine e_iload_n f142_24 rfl ?_
    obtain ⟨r6, hr7, hp⟩ := bind_some hp
    try dsimp only at hp
    refine e_callV (st := []) (o := 57) (as := [.int (a1)]) f142_25 (by decide) rfl rfl (Nat.le_of_ble_eq_true rfl) (WF.t (p102_w F (h) w (a0)  r4 hr5) 57 (by decide)) (Nat.le_of_ble_eq_true rfl) (p102_ok d F (r4) (p102_w F (h) w (a0)  r4 hr5) (a1) r6 hr7) ?_
    show ex _ 142 (28, [some (.ref (32)), some (.int (a0)), some (.int (a1)), some (.int (a2)), some (.int (a3)), some (.int (a4))], [], r6) = _
    refine e_aload_n f142_28 rfl ?_
    refine e_getR f142_29 (WF.t (p102_w F (r4) (p102_w F (h) w (a0)  r4 hr5) (a1)  r6 hr7) 32 (by decide)) rfl (WF.r (q := 57) (p102_w F (r4) (p102_w F (h) w (a0)  r4 hr5) (a1)  r6 hr7) 32 9 (by decide)) ?_
    refine e_iload_n f142_32 rfl ?_
    obtain ⟨r8, hr9, hp⟩ := bind_some hp
    try dsimp only at hp
    refine e_callV (st := []) (o := 57) (as := [.int (a2)]) f142_33 (by decide) rfl rfl (Nat.le_of_ble_eq_true rfl) (WF.t (p102_w F (r4) (p102_w F (h) w (a0)  r4 hr5) (a1)  r6 hr7) 57 (by decide)) (Nat.le_of_ble_eq_true rfl) (p102_ok d F (r6) (p102_w F (r4) (p102_w F (h) w (a0)  r4 hr5) (a1)  r6 hr7) (a2) r8 hr9) ?_
    show ex _ 142 (36, [some (.ref (32)), some (.int (a0)), some (.int (a1)), some (.int (a2)), some (.int (a3)), some (.int (a4))], [], r8) = _
    refine e_aload_n f142_36 rfl ?_
    refine e_getR f142_37 (WF.t (p102_w F (r6) (p102_w F (r4) (p102_w F (h) w (a0)  r4 hr5) (a1)  r6 hr7) (a2)  r8 hr9) 32 (by decide)) rfl (WF.r (q := 57) (p102_w F (r6) (p102_w F (r4) (p102_w F (h) w (a0)  r4 hr5) (a1)  r6 hr7) (a2)  r8 hr9) 32 9 (by decide)) ?_
    refine e_iload f142_40 rfl ?_
    obtain ⟨r10, hr11, hp⟩ := bind_some hp
    try dsimp only at hp
    refine e_callV (st := []) (o := 57) (as := [.int (a3)]) f142_42 (by decide) rfl rfl (Nat.le_of_ble_eq_true rfl) (WF.t (p102_w F (r6) (p102_w F (r4) (p102_w F (h) w (a0)  r4 hr5) (a1)  r6 hr7) (a2)  r8 hr9) 57 (by decide)) (Nat.le_of_ble_eq_true rfl) (p102_ok d F (r8) (p102_w F (r6) (p102_w F (r4) (p102_w F (h) w (a0)  r4 hr5) (a1)  r6 hr7) (a2)  r8 hr9) (a3) r10 hr11) ?_
    show ex _ 142 (45, [some (.ref (32)), some (.int (a0)), some (.int (a1)), some (.int (a2)), some (.int (a3)), some (.int (a4))], [], r10) = _
    refine e_aload_n f142_45 rfl ?_
    refine e_getR f142_46 (WF.t (p102_w F (r8) (p102_w F (r6) (p102_w F (r4) (p102_w F (h) w (a0)  r4 hr5) (a1)  r6 hr7) (a2)  r8 hr9) (a3)  r10 hr11) 32 (by decide)) rfl (WF.r (q := 57) (p102_w F (r8) (p102_w F (r6) (p102_w F (r4) (p102_w F (h) w (a0)  r4 hr5) (a1)  r6 hr7) (a2)  r8 hr9) (a3)  r10 hr11) 32 9 (by decide)) ?_
    refine e_iload f142_49 rfl ?_
    obtain ⟨r12, hr13, hp⟩ := bind_some hp
    try dsimp only at hp
    refine e_callV (st := []) (o := 57) (as := [.int (a4)]) f142_51 (by decide) rfl rfl (Nat.le_of_ble_eq_true rfl) (WF.t (p102_w F (r8) (p102_w F (r6) (p102_w F (r4) (p102_w F (h) w (a0)  r4 hr5) (a1)  r6 hr7) (a2)  r8 hr9) (a3)  r10 hr11) 57 (by decide)) (Nat.le_of_ble_eq_true rfl) (p102_ok d F (r10) (p102_w F (r8) (p102_w F (r6) (p102_w F (r4) (p102_w F (h) w (a0)  r4 hr5) (a1)  r6 hr7) (a2)  r8 hr9) (a3)  r10 hr11) (a4) r12 hr13) ?_
    show ex _ 142 (54, [some (.ref (32)), some (.int (a0)), some (.int (a1)), some (.int (a2)), some (.int (a3)), some (.int (a4))], [], r12) = _
    refine e_aload_n f142_54 rfl ?_
    refine e_getR f142_55 (WF.t (p102_w F (r10) (p102_w F (r8) (p102_w F (r6) (p102_w F (r4) (p102_w F (h) w (a0)  r4 hr5) (a1)  r6 hr7) (a2)  r8 hr9) (a3)  r10 hr11) (a4)  r12 hr13) 32 (by decide)) rfl (WF.r (q := 57) (p102_w F (r10) (p102_w F (r8) (p102_w F (r6) (p102_w F (r4) (p102_w F (h) w (a0)  r4 hr5) (a1)  r6 hr7) (a2)  r8 hr9) (a3)  r10 hr11) (a4)  r12 hr13) 32 9 (by decide)) ?_
    refine e_getI f142_58 (WF.t (p102_w F (r10) (p102_w F (r8) (p102_w F (r6) (p102_w F (r4) (p102_w F (h) w (a0)  r4 hr5) (a1)  r6 hr7) (a2)  r8 hr9) (a3)  r10 hr11) (a4)  r12 hr13) 57 (by decide)) (by decide) ?_
    have hp := Option.some.inj hp
    subst hp
    exact e_ireturn f142_61 (Or.inl rfl)
set_option maxRecDepth 100000 in
set_option maxHeartbeats 4000000 in
theorem p142_w (F : Nat) (h : HS) (w : WF h) (a0 : Int32) (a1 : Int32) (a2 : Int32) (a3 : Int32) (a4 : Int32) (r : Int32 × HS) (hp : p142 F h a0 a1 a2 a3 a4 = some r) : WF r.2 := by
  unfold p142 at hp
  obtain ⟨r1, hr2, hp⟩ := bind_some hp
  try dsimp only at hp
  by_cases hc3 : (r1) = (0 : Int32)
  · rw [if_pos hc3] at hp
    have hp := Option.some.inj hp
    subst hp
    exact (w)
  · rw [if_neg hc3] at hp
    obtain ⟨r4, hr5, hp⟩ := bind_some hp
    try dsimp only at hp
    obtain ⟨r6, hr7, hp⟩ := bind_some hp
    try dsimp only at hp
    obtain ⟨r8, hr9, hp⟩ := bind_some hp
    try dsimp only at hp
    obtain ⟨r10, hr11, hp⟩ := bind_some hp
    try dsimp only at hp
    obtain ⟨r12, hr13, hp⟩ := bind_some hp
    try dsimp only at hp
    have hp := Option.some.inj hp
    subst hp
    exact ((p102_w F (r10) (p102_w F (r8) (p102_w F (r6) (p102_w F (r4) (p102_w F (h) w (a0)  r4 hr5) (a1)  r6 hr7) (a2)  r8 hr9) (a3)  r10 hr11) (a4)  r12 hr13))
