theorem f187_0 : fetch 187 0 = some (.iload_n 0, 0, 0, 0) := rfl
theorem f187_1 : fetch 187 1 = some (.iload_n 1, 0, 0, 0) := rfl
theorem f187_2 : fetch 187 2 = some (.if_icmp .lt 12, 14, 0, 0) := rfl
theorem f187_5 : fetch 187 5 = some (.iload_n 0, 0, 0, 0) := rfl
theorem f187_6 : fetch 187 6 = some (.iload_n 2, 0, 0, 0) := rfl
theorem f187_7 : fetch 187 7 = some (.if_icmp .gt 7, 14, 0, 0) := rfl
theorem f187_10 : fetch 187 10 = some (.iconst 1, 0, 0, 0) := rfl
theorem f187_11 : fetch 187 11 = some (.goto 4, 15, 0, 0) := rfl
theorem f187_14 : fetch 187 14 = some (.iconst 0, 0, 0, 0) := rfl
theorem f187_15 : fetch 187 15 = some (.ireturn, 0, 0, 1) := rfl
set_option maxRecDepth 100000 in
set_option maxHeartbeats 4000000 in
theorem p187_ok (d : Nat) (h : HS) (w : WF h) (a0 : Int32) (a1 : Int32) (a2 : Int32) (r : Int32) (hp : p187 h a0 a1 a2 = some r) : ex (d + 0) 187 (ent 187 [.int (a0), .int (a1), .int (a2)] h) = some (some (.int (r)), h) := by
  rw [show ent 187 [.int (a0), .int (a1), .int (a2)] h = (0, [some (.int (a0)), some (.int (a1)), some (.int (a2))], [], h) from by  rfl]
  refine ex_weak (ls := [some (.int (a0)), some (.int (a1)), some (.int (a2))]) (le2_ok ⟨Or.inr rfl, Or.inr rfl, Or.inr rfl, trivial⟩) ?_
  unfold p187 at hp
  refine e_iload_n f187_0 rfl ?_
  refine e_iload_n f187_1 rfl ?_
  by_cases hc1 : (a0) < ((a1) : Int32)
  · rw [if_pos hc1] at hp
    refine e_icmp_lt_t f187_2 hc1 ?_
    refine e_iconst (v := 0) f187_14 (by decide) ?_
    have hp := Option.some.inj hp
    subst hp
    exact e_ireturn f187_15 (by decide)
  · rw [if_neg hc1] at hp
    refine e_icmp_lt_f f187_2 hc1 ?_
    refine e_iload_n f187_5 rfl ?_
    refine e_iload_n f187_6 rfl ?_
    by_cases hc2 : (a2) < ((a0) : Int32)
    · rw [if_pos hc2] at hp
      refine e_icmp_gt_t f187_7 hc2 ?_
      refine e_iconst (v := 0) f187_14 (by decide) ?_
      have hp := Option.some.inj hp
      subst hp
      exact e_ireturn f187_15 (by decide)
    · rw [if_neg hc2] at hp
      refine e_icmp_gt_f f187_7 hc2 ?_
      refine e_iconst (v := 1) f187_10 (by decide) ?_
      refine e_goto f187_11 ?_
      have hp := Option.some.inj hp
      subst hp
      exact e_ireturn f187_15 (by decide)
theorem f188_0 : fetch 188 0 = some (.iload_n 0, 0, 0, 0) := rfl
theorem f188_1 : fetch 188 1 = some (.iconst 0, 0, 0, 0) := rfl
theorem f188_2 : fetch 188 2 = some (.sipush 3999, 0, 0, 0) := rfl
theorem f188_5 : fetch 188 5 = some (.invokestatic 240, 187, 3, 1) := rfl
theorem f188_8 : fetch 188 8 = some (.ireturn, 0, 0, 1) := rfl
set_option maxRecDepth 100000 in
set_option maxHeartbeats 4000000 in
theorem p188_ok (d : Nat) (h : HS) (w : WF h) (a0 : Int32) (r : Int32) (hp : p188 h a0 = some r) : ex (d + 1) 188 (ent 188 [.int (a0)] h) = some (some (.int (r)), h) := by
  rw [show ent 188 [.int (a0)] h = (0, [some (.int (a0))], [], h) from by  rfl]
  refine ex_weak (ls := [some (.int (a0))]) (le2_ok ⟨Or.inr rfl, trivial⟩) ?_
  unfold p188 at hp
  refine e_iload_n f188_0 rfl ?_
  refine e_iconst (v := 0) f188_1 (by decide) ?_
  refine e_sipush (v := 3999) f188_2 (by decide) ?_
  obtain ⟨r1, hr2, hp⟩ := bind_some hp
  try dsimp only at hp
  refine e_callS (st := []) (as := [.int (a0), .int (0), .int (3999)]) f188_5 (by decide) rfl rfl (Nat.le_of_ble_eq_true rfl) (Nat.le_of_ble_eq_true rfl) (p187_ok d (h) w (a0) (0) (3999) r1 hr2) ?_
  show ex _ 188 (8, [some (.int (a0))], [.int (r1)], h) = _
  by_cases hg3 : (r1) = (0 : Int32) ∨ (r1) = (1 : Int32)
  rotate_left
  · rw [if_neg hg3] at hp; cases hp
  rw [if_pos hg3] at hp
  have hp := Option.some.inj hp
  subst hp
  exact e_ireturn f188_8 (Or.inr hg3)
theorem f189_0 : fetch 189 0 = some (.iload_n 0, 0, 0, 0) := rfl
theorem f189_1 : fetch 189 1 = some (.iconst 0, 0, 0, 0) := rfl
theorem f189_2 : fetch 189 2 = some (.sipush 9999, 0, 0, 0) := rfl
theorem f189_5 : fetch 189 5 = some (.invokestatic 240, 187, 3, 1) := rfl
theorem f189_8 : fetch 189 8 = some (.ireturn, 0, 0, 1) := rfl
set_option maxRecDepth 100000 in
set_option maxHeartbeats 4000000 in
theorem p189_ok (d : Nat) (h : HS) (w : WF h) (a0 : Int32) (r : Int32) (hp : p189 h a0 = some r) : ex (d + 1) 189 (ent 189 [.int (a0)] h) = some (some (.int (r)), h) := by
  rw [show ent 189 [.int (a0)] h = (0, [some (.int (a0))], [], h) from by  rfl]
  refine ex_weak (ls := [some (.int (a0))]) (le2_ok ⟨Or.inr rfl, trivial⟩) ?_
  unfold p189 at hp
  refine e_iload_n f189_0 rfl ?_
  refine e_iconst (v := 0) f189_1 (by decide) ?_
  refine e_sipush (v := 9999) f189_2 (by decide) ?_
  obtain ⟨r1, hr2, hp⟩ := bind_some hp
  try dsimp only at hp
  refine e_callS (st := []) (as := [.int (a0), .int (0), .int (9999)]) f189_5 (by decide) rfl rfl (Nat.le_of_ble_eq_true rfl) (Nat.le_of_ble_eq_true rfl) (p187_ok d (h) w (a0) (0) (9999) r1 hr2) ?_
  show ex _ 189 (8, [some (.int (a0))], [.int (r1)], h) = _
  by_cases hg3 : (r1) = (0 : Int32) ∨ (r1) = (1 : Int32)
  rotate_left
  · rw [if_neg hg3] at hp; cases hp
  rw [if_pos hg3] at hp
  have hp := Option.some.inj hp
  subst hp
  exact e_ireturn f189_8 (Or.inr hg3)
theorem f190_0 : fetch 190 0 = some (.iload_n 1, 0, 0, 0) := rfl
theorem f190_1 : fetch 190 1 = some (.aload_n 0, 0, 0, 0) := rfl
theorem f190_2 : fetch 190 2 = some (.getfield 244, 12, 1, 0) := rfl
theorem f190_5 : fetch 190 5 = some (.sipush 3999, 0, 0, 0) := rfl
theorem f190_8 : fetch 190 8 = some (.invokestatic 240, 187, 3, 1) := rfl
theorem f190_11 : fetch 190 11 = some (.ifCond .ne 5, 16, 0, 0) := rfl
theorem f190_14 : fetch 190 14 = some (.iconst 0, 0, 0, 0) := rfl
theorem f190_15 : fetch 190 15 = some (.ireturn, 0, 0, 1) := rfl
theorem f190_16 : fetch 190 16 = some (.aload_n 0, 0, 0, 0) := rfl
theorem f190_17 : fetch 190 17 = some (.iload_n 1, 0, 0, 0) := rfl
theorem f190_18 : fetch 190 18 = some (.putfield 244, 12, 1, 0) := rfl
theorem f190_21 : fetch 190 21 = some (.iconst 1, 0, 0, 0) := rfl
theorem f190_22 : fetch 190 22 = some (.ireturn, 0, 0, 1) := rfl
set_option maxRecDepth 100000 in
set_option maxHeartbeats 4000000 in
theorem p190_ok (d : Nat) (h : HS) (w : WF h) (a0 : Int32) (r : Int32 × HS) (hp : p190 h a0 = some r) : ex (d + 1) 190 (ent 190 [.ref (86), .int (a0)] h) = some (some (.int (r.1)), r.2) := by
  rw [show ent 190 [.ref (86), .int (a0)] h = (0, [some (.ref (86)), some (.int (a0))], [], h) from by  rfl]
  refine ex_weak (ls := [some (.ref (86)), some (.int (a0))]) (le2_ok ⟨Or.inr rfl, Or.inr rfl, trivial⟩) ?_
  unfold p190 at hp
  refine e_iload_n f190_0 rfl ?_
  refine e_aload_n f190_1 rfl ?_
  refine e_getI f190_2 (WF.t w 86 (by decide)) (by decide) ?_
  refine e_sipush (v := 3999) f190_5 (by decide) ?_
  obtain ⟨r1, hr2, hp⟩ := bind_some hp
  try dsimp only at hp
  refine e_callS (st := []) (as := [.int (a0), .int (hI (h) (86) 1), .int (3999)]) f190_8 (by decide) rfl rfl (Nat.le_of_ble_eq_true rfl) (Nat.le_of_ble_eq_true rfl) (p187_ok d (h) w (a0) (hI (h) (86) 1) (3999) r1 hr2) ?_
  show ex _ 190 (11, [some (.ref (86)), some (.int (a0))], [.int (r1)], h) = _
  by_cases hc3 : (r1) = (0 : Int32)
  · rw [if_pos hc3] at hp
    refine e_if_ne_f f190_11 hc3 ?_
    refine e_iconst (v := 0) f190_14 (by decide) ?_
    have hp := Option.some.inj hp
    subst hp
    exact e_ireturn f190_15 (by decide)
  · rw [if_neg hc3] at hp
    refine e_if_ne_t f190_11 hc3 ?_
    refine e_aload_n f190_16 rfl ?_
    refine e_iload_n f190_17 rfl ?_
    refine e_putI f190_18 (WF.t w 86 (by decide)) rfl ?_
    refine e_iconst (v := 1) f190_21 (by decide) ?_
    have hp := Option.some.inj hp
    subst hp
    exact e_ireturn f190_22 (by decide)
set_option maxRecDepth 100000 in
set_option maxHeartbeats 4000000 in
theorem p190_w (h : HS) (w : WF h) (a0 : Int32) (r : Int32 × HS) (hp : p190 h a0 = some r) : WF r.2 := by
  unfold p190 at hp
  obtain ⟨r1, hr2, hp⟩ := bind_some hp
  try dsimp only at hp
  by_cases hc3 : (r1) = (0 : Int32)
  · rw [if_pos hc3] at hp
    have hp := Option.some.inj hp
    subst hp
    exact (w)
  · rw [if_neg hc3] at hp
    have hp := Option.some.inj hp
    subst hp
    exact (w)
theorem f191_0 : fetch 191 0 = some (.aload_n 0, 0, 0, 0) := rfl
theorem f191_1 : fetch 191 1 = some (.getfield 247, 12, 2, 0) := rfl
theorem f191_4 : fetch 191 4 = some (.bipush 20, 0, 0, 0) := rfl
theorem f191_6 : fetch 191 6 = some (.if_icmp .eq 14, 20, 0, 0) := rfl
theorem f191_9 : fetch 191 9 = some (.iload_n 1, 0, 0, 0) := rfl
theorem f191_10 : fetch 191 10 = some (.iconst 1, 0, 0, 0) := rfl
theorem f191_11 : fetch 191 11 = some (.sipush 999, 0, 0, 0) := rfl
theorem f191_14 : fetch 191 14 = some (.invokestatic 240, 187, 3, 1) := rfl
theorem f191_17 : fetch 191 17 = some (.ifCond .ne 5, 22, 0, 0) := rfl
theorem f191_20 : fetch 191 20 = some (.iconst (-1), 0, 0, 0) := rfl
theorem f191_21 : fetch 191 21 = some (.ireturn, 0, 0, 0) := rfl
theorem f191_22 : fetch 191 22 = some (.aload_n 0, 0, 0, 0) := rfl
theorem f191_23 : fetch 191 23 = some (.getfield 9, 12, 4, 2) := rfl
theorem f191_26 : fetch 191 26 = some (.aload_n 0, 0, 0, 0) := rfl
theorem f191_27 : fetch 191 27 = some (.getfield 247, 12, 2, 0) := rfl
theorem f191_30 : fetch 191 30 = some (.iload_n 1, 0, 0, 0) := rfl
theorem f191_31 : fetch 191 31 = some (.iastore, 0, 0, 0) := rfl
theorem f191_32 : fetch 191 32 = some (.aload_n 0, 0, 0, 0) := rfl
theorem f191_33 : fetch 191 33 = some (.dup, 0, 0, 0) := rfl
theorem f191_34 : fetch 191 34 = some (.getfield 247, 12, 2, 0) := rfl
theorem f191_37 : fetch 191 37 = some (.iconst 1, 0, 0, 0) := rfl
theorem f191_38 : fetch 191 38 = some (.iadd, 0, 0, 0) := rfl
theorem f191_39 : fetch 191 39 = some (.putfield 247, 12, 2, 0) := rfl
theorem f191_42 : fetch 191 42 = some (.aload_n 0, 0, 0, 0) := rfl
theorem f191_43 : fetch 191 43 = some (.getfield 247, 12, 2, 0) := rfl
theorem f191_46 : fetch 191 46 = some (.iconst 1, 0, 0, 0) := rfl
theorem f191_47 : fetch 191 47 = some (.isub, 0, 0, 0) := rfl
theorem f191_48 : fetch 191 48 = some (.ireturn, 0, 0, 0) := rfl
set_option maxRecDepth 100000 in
set_option maxHeartbeats 4000000 in
theorem p191_ok (d : Nat) (h : HS) (w : WF h) (a0 : Int32) (r : Int32 × HS) (hp : p191 h a0 = some r) : ex (d + 1) 191 (ent 191 [.ref (86), .int (a0)] h) = some (some (.int (r.1)), r.2) := by
  rw [show ent 191 [.ref (86), .int (a0)] h = (0, [some (.ref (86)), some (.int (a0))], [], h) from by  rfl]
  refine ex_weak (ls := [some (.ref (86)), some (.int (a0))]) (le2_ok ⟨Or.inr rfl, Or.inr rfl, trivial⟩) ?_
  unfold p191 at hp
  refine e_aload_n f191_0 rfl ?_
  refine e_getI f191_1 (WF.t w 86 (by decide)) (by decide) ?_
  refine e_bipush (v := 20) f191_4 (by decide) ?_
  by_cases hc1 : (hI (h) (86) 2) = ((20) : Int32)
  · rw [if_pos hc1] at hp
    refine e_icmp_eq_t f191_6 hc1 ?_
    refine e_iconst (v := -1) f191_20 (by decide) ?_
    have hp := Option.some.inj hp
    subst hp
    exact e_ireturn f191_21 (Or.inl rfl)
  · rw [if_neg hc1] at hp
    refine e_icmp_eq_f f191_6 hc1 ?_
    refine e_iload_n f191_9 rfl ?_
    refine e_iconst (v := 1) f191_10 (by decide) ?_
    refine e_sipush (v := 999) f191_11 (by decide) ?_
    obtain ⟨r2, hr3, hp⟩ := bind_some hp
    try dsimp only at hp
    refine e_callS (st := []) (as := [.int (a0), .int (1), .int (999)]) f191_14 (by decide) rfl rfl (Nat.le_of_ble_eq_true rfl) (Nat.le_of_ble_eq_true rfl) (p187_ok d (h) w (a0) (1) (999) r2 hr3) ?_
    show ex _ 191 (17, [some (.ref (86)), some (.int (a0))], [.int (r2)], h) = _
    by_cases hc4 : (r2) = (0 : Int32)
    · rw [if_pos hc4] at hp
      refine e_if_ne_f f191_17 hc4 ?_
      refine e_iconst (v := -1) f191_20 (by decide) ?_
      have hp := Option.some.inj hp
      subst hp
      exact e_ireturn f191_21 (Or.inl rfl)
    · rw [if_neg hc4] at hp
      refine e_if_ne_t f191_17 hc4 ?_
      refine e_aload_n f191_22 rfl ?_
      refine e_getR f191_23 (WF.t w 86 (by decide)) rfl (WF.r (q := 87) w 86 4 (by decide)) ?_
      refine e_aload_n f191_26 rfl ?_
      refine e_getI f191_27 (WF.t w 86 (by decide)) (by decide) ?_
      refine e_iload_n f191_30 rfl ?_
      by_cases hg5 : (hI (h) (86) 2) < (0 : Int32) ∨ 20 ≤ (hI (h) (86) 2).toNatClampNeg
      · rw [if_pos hg5] at hp; cases hp
      rw [if_neg hg5] at hp
      refine e_iastore f191_31 (WF.t w 87 (by decide)) (WF.n w 87 (by decide)) hg5 ?_
      refine e_aload_n f191_32 rfl ?_
      refine e_dup f191_33 rfl ?_
      refine e_getI f191_34 (WF.t w 86 (by decide)) (by decide) ?_
      refine e_iconst (v := 1) f191_37 (by decide) ?_
      refine e_iadd f191_38 ?_
      refine e_putI f191_39 (WF.t w 86 (by decide)) rfl ?_
      obtain ⟨h6, e7, hp⟩ := bind_some hp
      try dsimp only at hp
      have e7 := Option.some.inj e7
      have w8 : WF h6 := e7 ▸ w
      rw [e7]
      refine e_aload_n f191_42 rfl ?_
      refine e_getI f191_43 (WF.t w8 86 (by decide)) (by decide) ?_
      refine e_iconst (v := 1) f191_46 (by decide) ?_
      refine e_isub f191_47 ?_
      have hp := Option.some.inj hp
      subst hp
      exact e_ireturn f191_48 (Or.inl rfl)
set_option maxRecDepth 100000 in
set_option maxHeartbeats 4000000 in
theorem p191_w (h : HS) (w : WF h) (a0 : Int32) (r : Int32 × HS) (hp : p191 h a0 = some r) : WF r.2 := by
  unfold p191 at hp
  by_cases hc1 : (hI (h) (86) 2) = ((20) : Int32)
  · rw [if_pos hc1] at hp
    have hp := Option.some.inj hp
    subst hp
    exact (w)
  · rw [if_neg hc1] at hp
    obtain ⟨r2, hr3, hp⟩ := bind_some hp
    try dsimp only at hp
    by_cases hc4 : (r2) = (0 : Int32)
    · rw [if_pos hc4] at hp
      have hp := Option.some.inj hp
      subst hp
      exact (w)
    · rw [if_neg hc4] at hp
      by_cases hg5 : (hI (h) (86) 2) < (0 : Int32) ∨ 20 ≤ (hI (h) (86) 2).toNatClampNeg
      · rw [if_pos hg5] at hp; cases hp
      rw [if_neg hg5] at hp
      obtain ⟨h6, e7, hp⟩ := bind_some hp
      try dsimp only at hp
      have e7 := Option.some.inj e7
      have w8 : WF h6 := e7 ▸ w
      have hp := Option.some.inj hp
      subst hp
      exact (w8)
theorem f192_0 : fetch 192 0 = some (.aload_n 0, 0, 0, 0) := rfl
theorem f192_1 : fetch 192 1 = some (.getfield 250, 12, 3, 0) := rfl
theorem f192_4 : fetch 192 4 = some (.sipush 200, 0, 0, 0) := rfl
theorem f192_7 : fetch 192 7 = some (.if_icmp .eq 27, 34, 0, 0) := rfl
theorem f192_10 : fetch 192 10 = some (.iload_n 1, 0, 0, 0) := rfl
theorem f192_11 : fetch 192 11 = some (.iconst 0, 0, 0, 0) := rfl
theorem f192_12 : fetch 192 12 = some (.aload_n 0, 0, 0, 0) := rfl
theorem f192_13 : fetch 192 13 = some (.getfield 247, 12, 2, 0) := rfl
theorem f192_16 : fetch 192 16 = some (.iconst 1, 0, 0, 0) := rfl
theorem f192_17 : fetch 192 17 = some (.isub, 0, 0, 0) := rfl
theorem f192_18 : fetch 192 18 = some (.invokestatic 240, 187, 3, 1) := rfl
theorem f192_21 : fetch 192 21 = some (.ifCond .eq 13, 34, 0, 0) := rfl
theorem f192_24 : fetch 192 24 = some (.iload_n 2, 0, 0, 0) := rfl
theorem f192_25 : fetch 192 25 = some (.iconst 0, 0, 0, 0) := rfl
theorem f192_26 : fetch 192 26 = some (.bipush 15, 0, 0, 0) := rfl
theorem f192_28 : fetch 192 28 = some (.invokestatic 240, 187, 3, 1) := rfl
theorem f192_31 : fetch 192 31 = some (.ifCond .ne 5, 36, 0, 0) := rfl
theorem f192_34 : fetch 192 34 = some (.iconst (-1), 0, 0, 0) := rfl
theorem f192_35 : fetch 192 35 = some (.ireturn, 0, 0, 0) := rfl
theorem f192_36 : fetch 192 36 = some (.aload_n 0, 0, 0, 0) := rfl
theorem f192_37 : fetch 192 37 = some (.getfield 13, 12, 5, 2) := rfl
theorem f192_40 : fetch 192 40 = some (.aload_n 0, 0, 0, 0) := rfl
theorem f192_41 : fetch 192 41 = some (.getfield 250, 12, 3, 0) := rfl
theorem f192_44 : fetch 192 44 = some (.iload_n 1, 0, 0, 0) := rfl
theorem f192_45 : fetch 192 45 = some (.iastore, 0, 0, 0) := rfl
theorem f192_46 : fetch 192 46 = some (.aload_n 0, 0, 0, 0) := rfl
theorem f192_47 : fetch 192 47 = some (.getfield 16, 12, 6, 2) := rfl
theorem f192_50 : fetch 192 50 = some (.aload_n 0, 0, 0, 0) := rfl
theorem f192_51 : fetch 192 51 = some (.getfield 250, 12, 3, 0) := rfl
theorem f192_54 : fetch 192 54 = some (.iload_n 2, 0, 0, 0) := rfl
theorem f192_55 : fetch 192 55 = some (.iastore, 0, 0, 0) := rfl
theorem f192_56 : fetch 192 56 = some (.iconst 0, 0, 0, 0) := rfl
theorem f192_57 : fetch 192 57 = some (.istore 5, 0, 0, 0) := rfl
theorem f192_59 : fetch 192 59 = some (.iload 5, 0, 0, 0) := rfl
theorem f192_61 : fetch 192 61 = some (.iconst 4, 0, 0, 0) := rfl
theorem f192_62 : fetch 192 62 = some (.if_icmp .ge 58, 120, 0, 0) := rfl
theorem f192_65 : fetch 192 65 = some (.lload_n 3, 0, 0, 0) := rfl
theorem f192_66 : fetch 192 66 = some (.bipush 48, 0, 0, 0) := rfl
theorem f192_68 : fetch 192 68 = some (.bipush 16, 0, 0, 0) := rfl
theorem f192_70 : fetch 192 70 = some (.iload 5, 0, 0, 0) := rfl
theorem f192_72 : fetch 192 72 = some (.imul, 0, 0, 0) := rfl
theorem f192_73 : fetch 192 73 = some (.isub, 0, 0, 0) := rfl
theorem f192_74 : fetch 192 74 = some (.lshr, 0, 0, 0) := rfl
theorem f192_75 : fetch 192 75 = some (.ldc2_w 253, 0, 0, 65535) := rfl
theorem f192_78 : fetch 192 78 = some (.land, 0, 0, 0) := rfl
theorem f192_79 : fetch 192 79 = some (.l2i, 0, 0, 0) := rfl
theorem f192_80 : fetch 192 80 = some (.istore 6, 0, 0, 0) := rfl
theorem f192_82 : fetch 192 82 = some (.aload_n 0, 0, 0, 0) := rfl
theorem f192_83 : fetch 192 83 = some (.getfield 19, 12, 7, 2) := rfl
theorem f192_86 : fetch 192 86 = some (.iconst 4, 0, 0, 0) := rfl
theorem f192_87 : fetch 192 87 = some (.aload_n 0, 0, 0, 0) := rfl
theorem f192_88 : fetch 192 88 = some (.getfield 250, 12, 3, 0) := rfl
theorem f192_91 : fetch 192 91 = some (.imul, 0, 0, 0) := rfl
theorem f192_92 : fetch 192 92 = some (.iload 5, 0, 0, 0) := rfl
theorem f192_94 : fetch 192 94 = some (.iadd, 0, 0, 0) := rfl
theorem f192_95 : fetch 192 95 = some (.iload 6, 0, 0, 0) := rfl
theorem f192_97 : fetch 192 97 = some (.sipush 32767, 0, 0, 0) := rfl
theorem f192_100 : fetch 192 100 = some (.if_icmp .le 11, 111, 0, 0) := rfl
theorem f192_103 : fetch 192 103 = some (.iload 6, 0, 0, 0) := rfl
theorem f192_105 : fetch 192 105 = some (.ldc 255, 0, 0, 65536) := rfl
theorem f192_107 : fetch 192 107 = some (.isub, 0, 0, 0) := rfl
theorem f192_108 : fetch 192 108 = some (.goto 5, 113, 0, 0) := rfl
theorem f192_111 : fetch 192 111 = some (.iload 6, 0, 0, 0) := rfl
theorem f192_113 : fetch 192 113 = some (.iastore, 0, 0, 0) := rfl
theorem f192_114 : fetch 192 114 = some (.iinc 5 1, 0, 0, 0) := rfl
theorem f192_117 : fetch 192 117 = some (.goto (-58), 59, 0, 0) := rfl
theorem f192_120 : fetch 192 120 = some (.aload_n 0, 0, 0, 0) := rfl
theorem f192_121 : fetch 192 121 = some (.getfield 22, 12, 8, 2) := rfl
theorem f192_124 : fetch 192 124 = some (.aload_n 0, 0, 0, 0) := rfl
theorem f192_125 : fetch 192 125 = some (.getfield 250, 12, 3, 0) := rfl
theorem f192_128 : fetch 192 128 = some (.iconst (-1), 0, 0, 0) := rfl
theorem f192_129 : fetch 192 129 = some (.iastore, 0, 0, 0) := rfl
theorem f192_130 : fetch 192 130 = some (.aload_n 0, 0, 0, 0) := rfl
theorem f192_131 : fetch 192 131 = some (.dup, 0, 0, 0) := rfl
theorem f192_132 : fetch 192 132 = some (.getfield 250, 12, 3, 0) := rfl
theorem f192_135 : fetch 192 135 = some (.iconst 1, 0, 0, 0) := rfl
theorem f192_136 : fetch 192 136 = some (.iadd, 0, 0, 0) := rfl
theorem f192_137 : fetch 192 137 = some (.putfield 250, 12, 3, 0) := rfl
theorem f192_140 : fetch 192 140 = some (.aload_n 0, 0, 0, 0) := rfl
theorem f192_141 : fetch 192 141 = some (.getfield 250, 12, 3, 0) := rfl
theorem f192_144 : fetch 192 144 = some (.iconst 1, 0, 0, 0) := rfl
theorem f192_145 : fetch 192 145 = some (.isub, 0, 0, 0) := rfl
theorem f192_146 : fetch 192 146 = some (.ireturn, 0, 0, 0) := rfl
set_option maxRecDepth 100000 in
set_option maxHeartbeats 4000000 in
theorem p192_j113_ok (d : Nat) (F : Nat) (a0 : Int32) (a1 : Int32) (a2 : Int64) (K59 : HS → Int32 → Option (Int32 × HS)) (hK59 : ∀ (h : HS) (w : WF h) (u5 : Int32) (r : Int32 × HS), K59 h u5 = some r → ex (d + 1) 192 (59, [some (.ref (86)), none, none, some (.long (a2)), none, some (.int (u5)), none], [], h) = some (some (.int (r.1)), r.2)) (h : HS) (w : WF h) (v5 : Int32) (s0 : Int32) (s1 : Int32) (r : Int32 × HS) (hp : p192_j113 F a0 a1 a2 K59 h v5 s0 s1 = some r) : ex (d + 1) 192 (113, [some (.ref (86)), none, none, some (.long (a2)), none, some (.int (v5)), none], [.int (s0), .int (s1), .ref (90)], h) = some (some (.int (r.1)), r.2) := by
  unfold p192_j113 at hp
  by_cases hg19 : (s1) < (0 : Int32) ∨ 800 ≤ (s1).toNatClampNeg
  · rw [if_pos hg19] at hp; cases hp
  rw [if_neg hg19] at hp
  refine e_iastore f192_113 (WF.t w 90 (by decide)) (WF.n w 90 (by decide)) hg19 ?_
  refine e_iinc (ls2 := [some (.ref (86)), none, none, some (.long (a2)), none, some (.int ((v5) + 1)), none]) f192_114 (by decide) rfl rfl ?_
  refine e_goto f192_117 ?_
  refine ex_weak (ls := [some (.ref (86)), none, none, some (.long (a2)), none, some (.int ((v5) + 1)), none]) (le2_ok ⟨Or.inr rfl, Or.inl rfl, Or.inl rfl, Or.inr rfl, Or.inl rfl, Or.inr rfl, Or.inl rfl, trivial⟩) ?_
  exact hK59 (hsI (h) (90) (s1).toNatClampNeg (s0)) (w) ((v5) + 1) _ hp
set_option maxRecDepth 100000 in
set_option maxHeartbeats 4000000 in
theorem p192_j113_w (F : Nat) (a0 : Int32) (a1 : Int32) (a2 : Int64) (K59 : HS → Int32 → Option (Int32 × HS)) (hK59 : ∀ (h : HS) (w : WF h) (u5 : Int32) (r : Int32 × HS), K59 h u5 = some r → WF r.2) (h : HS) (w : WF h) (v5 : Int32) (s0 : Int32) (s1 : Int32) (r : Int32 × HS) (hp : p192_j113 F a0 a1 a2 K59 h v5 s0 s1 = some r) : WF r.2 := by
  unfold p192_j113 at hp
  by_cases hg19 : (s1) < (0 : Int32) ∨ 800 ≤ (s1).toNatClampNeg
  · rw [if_pos hg19] at hp; cases hp
  rw [if_neg hg19] at hp
  exact hK59 (hsI (h) (90) (s1).toNatClampNeg (s0)) (w) ((v5) + 1) _ hp
set_option maxRecDepth 100000 in
set_option maxHeartbeats 4000000 in
theorem p192_L59_ok (d : Nat) (F : Nat) (a0 : Int32) (a1 : Int32) (a2 : Int64) : ∀ (n : Nat) (h : HS) (w : WF h) (v5 : Int32) (r : Int32 × HS), p192_L59 F a0 a1 a2 n h v5 = some r → ex (d + 1) 192 (59, [some (.ref (86)), none, none, some (.long (a2)), none, some (.int (v5)), none], [], h) = some (some (.int (r.1)), r.2) := by
  intro n
  induction n with
  | zero => intro h w v5 r hp; cases hp
  | succ n ih =>
    intro h w v5 r hp
    unfold p192_L59 at hp
    refine e_iload f192_59 rfl ?_
    refine e_iconst (v := 4) f192_61 (by decide) ?_
    by_cases hc13 : (v5) < ((4) : Int32)
    · rw [if_pos hc13] at hp
      refine e_icmp_ge_f f192_62 hc13 ?_
      refine e_lload_n f192_65 rfl ?_
      refine e_bipush (v := 48) f192_66 (by decide) ?_
      refine e_bipush (v := 16) f192_68 (by decide) ?_
      refine e_iload f192_70 rfl ?_
      refine e_imul f192_72 ?_
      refine e_isub f192_73 ?_
      refine e_lshr f192_74 ?_
      refine e_ldc2 (v := 65535) f192_75 (by decide) ?_
      refine e_land f192_78 ?_
      refine e_l2i f192_79 ?_
      refine e_istore (ls2 := [some (.ref (86)), none, none, some (.long (a2)), none, some (.int (v5)), some (.int ((((a2) >>> (((48) - ((16) * (v5))).toInt64 &&& 63)) &&& (65535)).toInt32))]) f192_80 (Nat.le_of_ble_eq_true rfl) rfl ?_
      refine e_aload_n f192_82 rfl ?_
      refine e_getR f192_83 (WF.t w 86 (by decide)) rfl (WF.r (q := 90) w 86 7 (by decide)) ?_
      refine e_iconst (v := 4) f192_86 (by decide) ?_
      refine e_aload_n f192_87 rfl ?_
      refine e_getI f192_88 (WF.t w 86 (by decide)) (by decide) ?_
      refine e_imul f192_91 ?_
      refine e_iload f192_92 rfl ?_
      refine e_iadd f192_94 ?_
      refine e_iload f192_95 rfl ?_
      refine e_sipush (v := 32767) f192_97 (by decide) ?_
      by_cases hc14 : (32767) < (((((a2) >>> (((48) - ((16) * (v5))).toInt64 &&& 63)) &&& (65535)).toInt32) : Int32)
      · rw [if_pos hc14] at hp
        refine e_icmp_le_f f192_100 hc14 ?_
        refine e_iload f192_103 rfl ?_
        refine e_ldc (v := 65536) f192_105 (by decide) (by decide) ?_
        refine e_isub f192_107 ?_
        refine e_goto f192_108 ?_
        refine ex_weak (ls := [some (.ref (86)), none, none, some (.long (a2)), none, some (.int (v5)), none]) (le2_ok ⟨Or.inr rfl, Or.inl rfl, Or.inl rfl, Or.inr rfl, Or.inl rfl, Or.inr rfl, Or.inl rfl, trivial⟩) ?_
        exact p192_j113_ok d F a0 a1 a2 ((p192_L59 F a0 a1 a2 n)) (ih) (h) (w) (v5) (((((a2) >>> (((48) - ((16) * (v5))).toInt64 &&& 63)) &&& (65535)).toInt32) - (65536)) (((4) * (hI (h) (86) 3)) + (v5)) _ hp
      · rw [if_neg hc14] at hp
        refine e_icmp_le_t f192_100 hc14 ?_
        refine e_iload f192_111 rfl ?_
        refine ex_weak (ls := [some (.ref (86)), none, none, some (.long (a2)), none, some (.int (v5)), none]) (le2_ok ⟨Or.inr rfl, Or.inl rfl, Or.inl rfl, Or.inr rfl, Or.inl rfl, Or.inr rfl, Or.inl rfl, trivial⟩) ?_
        exact p192_j113_ok d F a0 a1 a2 ((p192_L59 F a0 a1 a2 n)) (ih) (h) (w) (v5) ((((a2) >>> (((48) - ((16) * (v5))).toInt64 &&& 63)) &&& (65535)).toInt32) (((4) * (hI (h) (86) 3)) + (v5)) _ hp
    · rw [if_neg hc13] at hp
      refine e_icmp_ge_t f192_62 hc13 ?_
      refine e_aload_n f192_120 rfl ?_
      refine e_getR f192_121 (WF.t w 86 (by decide)) rfl (WF.r (q := 91) w 86 8 (by decide)) ?_
      refine e_aload_n f192_124 rfl ?_
      refine e_getI f192_125 (WF.t w 86 (by decide)) (by decide) ?_
      refine e_iconst (v := -1) f192_128 (by decide) ?_
      by_cases hg15 : (hI (h) (86) 3) < (0 : Int32) ∨ 200 ≤ (hI (h) (86) 3).toNatClampNeg
      · rw [if_pos hg15] at hp; cases hp
      rw [if_neg hg15] at hp
      refine e_iastore f192_129 (WF.t w 91 (by decide)) (WF.n w 91 (by decide)) hg15 ?_
      refine e_aload_n f192_130 rfl ?_
      refine e_dup f192_131 rfl ?_
      refine e_getI f192_132 (WF.t w 86 (by decide)) (by decide) ?_
      refine e_iconst (v := 1) f192_135 (by decide) ?_
      refine e_iadd f192_136 ?_
      refine e_putI f192_137 (WF.t w 86 (by decide)) rfl ?_
      obtain ⟨h16, e17, hp⟩ := bind_some hp
      try dsimp only at hp
      have e17 := Option.some.inj e17
      have w18 : WF h16 := e17 ▸ w
      rw [e17]
      refine e_aload_n f192_140 rfl ?_
      refine e_getI f192_141 (WF.t w18 86 (by decide)) (by decide) ?_
      refine e_iconst (v := 1) f192_144 (by decide) ?_
      refine e_isub f192_145 ?_
      have hp := Option.some.inj hp
      subst hp
      exact e_ireturn f192_146 (Or.inl rfl)
set_option maxRecDepth 100000 in
set_option maxHeartbeats 4000000 in
theorem p192_L59_w (F : Nat) (a0 : Int32) (a1 : Int32) (a2 : Int64) : ∀ (n : Nat) (h : HS) (w : WF h) (v5 : Int32) (r : Int32 × HS), p192_L59 F a0 a1 a2 n h v5 = some r → WF r.2 := by
  intro n
  induction n with
  | zero => intro h w v5 r hp; cases hp
  | succ n ih =>
    intro h w v5 r hp
    unfold p192_L59 at hp
    by_cases hc13 : (v5) < ((4) : Int32)
    · rw [if_pos hc13] at hp
      by_cases hc14 : (32767) < (((((a2) >>> (((48) - ((16) * (v5))).toInt64 &&& 63)) &&& (65535)).toInt32) : Int32)
      · rw [if_pos hc14] at hp
        exact p192_j113_w F a0 a1 a2 ((p192_L59 F a0 a1 a2 n)) (ih) (h) (w) (v5) (((((a2) >>> (((48) - ((16) * (v5))).toInt64 &&& 63)) &&& (65535)).toInt32) - (65536)) (((4) * (hI (h) (86) 3)) + (v5)) _ hp
      · rw [if_neg hc14] at hp
        exact p192_j113_w F a0 a1 a2 ((p192_L59 F a0 a1 a2 n)) (ih) (h) (w) (v5) ((((a2) >>> (((48) - ((16) * (v5))).toInt64 &&& 63)) &&& (65535)).toInt32) (((4) * (hI (h) (86) 3)) + (v5)) _ hp
    · rw [if_neg hc13] at hp
      by_cases hg15 : (hI (h) (86) 3) < (0 : Int32) ∨ 200 ≤ (hI (h) (86) 3).toNatClampNeg
      · rw [if_pos hg15] at hp; cases hp
      rw [if_neg hg15] at hp
      obtain ⟨h16, e17, hp⟩ := bind_some hp
      try dsimp only at hp
      have e17 := Option.some.inj e17
      have w18 : WF h16 := e17 ▸ w
      have hp := Option.some.inj hp
      subst hp
      exact (w18)
set_option maxRecDepth 100000 in
set_option maxHeartbeats 4000000 in
theorem p192_ok (d : Nat) (F : Nat) (h : HS) (w : WF h) (a0 : Int32) (a1 : Int32) (a2 : Int64) (r : Int32 × HS) (hp : p192 F h a0 a1 a2 = some r) : ex (d + 1) 192 (ent 192 [.ref (86), .int (a0), .int (a1), .long (a2)] h) = some (some (.int (r.1)), r.2) := by
  rw [show ent 192 [.ref (86), .int (a0), .int (a1), .long (a2)] h = (0, [some (.ref (86)), some (.int (a0)), some (.int (a1)), some (.long (a2)), none, none, none], [], h) from by  rfl]
  refine ex_weak (ls := [some (.ref (86)), some (.int (a0)), some (.int (a1)), some (.long (a2)), none, none, none]) (le2_ok ⟨Or.inr rfl, Or.inr rfl, Or.inr rfl, Or.inr rfl, Or.inr rfl, Or.inr rfl, Or.inr rfl, trivial⟩) ?_
  unfold p192 at hp
  refine e_aload_n f192_0 rfl ?_
  refine e_getI f192_1 (WF.t w 86 (by decide)) (by decide) ?_
  refine e_sipush (v := 200) f192_4 (by decide) ?_
  by_cases hc1 : (hI (h) (86) 3) = ((200) : Int32)
  · rw [if_pos hc1] at hp
    refine e_icmp_eq_t f192_7 hc1 ?_
    refine e_iconst (v := -1) f192_34 (by decide) ?_
    have hp := Option.some.inj hp
    subst hp
    exact e_ireturn f192_35 (Or.inl rfl)
  · rw [if_neg hc1] at hp
    refine e_icmp_eq_f f192_7 hc1 ?_
    refine e_iload_n f192_10 rfl ?_
    refine e_iconst (v := 0) f192_11 (by decide) ?_
    refine e_aload_n f192_12 rfl ?_
    refine e_getI f192_13 (WF.t w 86 (by decide)) (by decide) ?_
    refine e_iconst (v := 1) f192_16 (by decide) ?_
    refine e_isub f192_17 ?_
    obtain ⟨r2, hr3, hp⟩ := bind_some hp
    try dsimp only at hp
    refine e_callS (st := []) (as := [.int (a0), .int (0), .int ((hI (h) (86) 2) - (1))]) f192_18 (by decide) rfl rfl (Nat.le_of_ble_eq_true rfl) (Nat.le_of_ble_eq_true rfl) (p187_ok d (h) w (a0) (0) ((hI (h) (86) 2) - (1)) r2 hr3) ?_
    show ex _ 192 (21, [some (.ref (86)), some (.int (a0)), some (.int (a1)), some (.long (a2)), none, none, none], [.int (r2)], h) = _
    by_cases hc4 : (r2) = (0 : Int32)
    · rw [if_pos hc4] at hp
      refine e_if_eq_t f192_21 hc4 ?_
      refine e_iconst (v := -1) f192_34 (by decide) ?_
      have hp := Option.some.inj hp
      subst hp
      exact e_ireturn f192_35 (Or.inl rfl)
    · rw [if_neg hc4] at hp
      refine e_if_eq_f f192_21 hc4 ?_
      refine e_iload_n f192_24 rfl ?_
      refine e_iconst (v := 0) f192_25 (by decide) ?_
      refine e_bipush (v := 15) f192_26 (by decide) ?_
      obtain ⟨r5, hr6, hp⟩ := bind_some hp
      try dsimp only at hp
      refine e_callS (st := []) (as := [.int (a1), .int (0), .int (15)]) f192_28 (by decide) rfl rfl (Nat.le_of_ble_eq_true rfl) (Nat.le_of_ble_eq_true rfl) (p187_ok d (h) w (a1) (0) (15) r5 hr6) ?_
      show ex _ 192 (31, [some (.ref (86)), some (.int (a0)), some (.int (a1)), some (.long (a2)), none, none, none], [.int (r5)], h) = _
      by_cases hc7 : (r5) = (0 : Int32)
      · rw [if_pos hc7] at hp
        refine e_if_ne_f f192_31 hc7 ?_
        refine e_iconst (v := -1) f192_34 (by decide) ?_
        have hp := Option.some.inj hp
        subst hp
        exact e_ireturn f192_35 (Or.inl rfl)
      · rw [if_neg hc7] at hp
        refine e_if_ne_t f192_31 hc7 ?_
        refine e_aload_n f192_36 rfl ?_
        refine e_getR f192_37 (WF.t w 86 (by decide)) rfl (WF.r (q := 88) w 86 5 (by decide)) ?_
        refine e_aload_n f192_40 rfl ?_
        refine e_getI f192_41 (WF.t w 86 (by decide)) (by decide) ?_
        refine e_iload_n f192_44 rfl ?_
        by_cases hg8 : (hI (h) (86) 3) < (0 : Int32) ∨ 200 ≤ (hI (h) (86) 3).toNatClampNeg
        · rw [if_pos hg8] at hp; cases hp
        rw [if_neg hg8] at hp
        refine e_iastore f192_45 (WF.t w 88 (by decide)) (WF.n w 88 (by decide)) hg8 ?_
        refine e_aload_n f192_46 rfl ?_
        refine e_getR f192_47 (WF.t w 86 (by decide)) rfl (WF.r (q := 89) w 86 6 (by decide)) ?_
        refine e_aload_n f192_50 rfl ?_
        refine e_getI f192_51 (WF.t w 86 (by decide)) (by decide) ?_
        refine e_iload_n f192_54 rfl ?_
        by_cases hg9 : (hI (hsI (h) (88) (hI (h) (86) 3).toNatClampNeg (a0)) (86) 3) < (0 : Int32) ∨ 200 ≤ (hI (hsI (h) (88) (hI (h) (86) 3).toNatClampNeg (a0)) (86) 3).toNatClampNeg
        · rw [if_pos hg9] at hp; cases hp
        rw [if_neg hg9] at hp
        refine e_iastore f192_55 (WF.t w 89 (by decide)) (WF.n w 89 (by decide)) hg9 ?_
        obtain ⟨h10, e11, hp⟩ := bind_some hp
        try dsimp only at hp
        have e11 := Option.some.inj e11
        have w12 : WF h10 := e11 ▸ w
        rw [e11]
        refine e_iconst (v := 0) f192_56 (by decide) ?_
        refine e_istore (ls2 := [some (.ref (86)), some (.int (a0)), some (.int (a1)), some (.long (a2)), none, some (.int (0)), none]) f192_57 (Nat.le_of_ble_eq_true rfl) rfl ?_
        refine ex_weak (ls := [some (.ref (86)), none, none, some (.long (a2)), none, some (.int (0)), none]) (le2_ok ⟨Or.inr rfl, Or.inl rfl, Or.inl rfl, Or.inr rfl, Or.inl rfl, Or.inr rfl, Or.inl rfl, trivial⟩) ?_
        exact p192_L59_ok d F a0 a1 a2 F (h10) (w12) (0) _ hp
set_option maxRecDepth 100000 in
set_option maxHeartbeats 4000000 in
theorem p192_w (F : Nat) (h : HS) (w : WF h) (a0 : Int32) (a1 : Int32) (a2 : Int64) (r : Int32 × HS) (hp : p192 F h a0 a1 a2 = some r) : WF r.2 := by
  unfold p192 at hp
  by_cases hc1 : (hI (h) (86) 3) = ((200) : Int32)
  · rw [if_pos hc1] at hp
    have hp := Option.some.inj hp
    subst hp
    exact (w)
  · rw [if_neg hc1] at hp
    obtain ⟨r2, hr3, hp⟩ := bind_some hp
    try dsimp only at hp
    by_cases hc4 : (r2) = (0 : Int32)
    · rw [if_pos hc4] at hp
      have hp := Option.some.inj hp
      subst hp
      exact (w)
    · rw [if_neg hc4] at hp
      obtain ⟨r5, hr6, hp⟩ := bind_some hp
      try dsimp only at hp
      by_cases hc7 : (r5) = (0 : Int32)
      · rw [if_pos hc7] at hp
        have hp := Option.some.inj hp
        subst hp
        exact (w)
      · rw [if_neg hc7] at hp
        by_cases hg8 : (hI (h) (86) 3) < (0 : Int32) ∨ 200 ≤ (hI (h) (86) 3).toNatClampNeg
        · rw [if_pos hg8] at hp; cases hp
        rw [if_neg hg8] at hp
        by_cases hg9 : (hI (hsI (h) (88) (hI (h) (86) 3).toNatClampNeg (a0)) (86) 3) < (0 : Int32) ∨ 200 ≤ (hI (hsI (h) (88) (hI (h) (86) 3).toNatClampNeg (a0)) (86) 3).toNatClampNeg
        · rw [if_pos hg9] at hp; cases hp
        rw [if_neg hg9] at hp
        obtain ⟨h10, e11, hp⟩ := bind_some hp
        try dsimp only at hp
        have e11 := Option.some.inj e11
        have w12 : WF h10 := e11 ▸ w
        exact p192_L59_w F a0 a1 a2 F (h10) (w12) (0) _ hp
theorem f193_0 : fetch 193 0 = some (.iload_n 1, 0, 0, 0) := rfl
theorem f193_1 : fetch 193 1 = some (.iconst 0, 0, 0, 0) := rfl
theorem f193_2 : fetch 193 2 = some (.aload_n 0, 0, 0, 0) := rfl
theorem f193_3 : fetch 193 3 = some (.getfield 250, 12, 3, 0) := rfl
theorem f193_6 : fetch 193 6 = some (.iconst 1, 0, 0, 0) := rfl
theorem f193_7 : fetch 193 7 = some (.isub, 0, 0, 0) := rfl
theorem f193_8 : fetch 193 8 = some (.invokestatic 240, 187, 3, 1) := rfl
theorem f193_11 : fetch 193 11 = some (.ireturn, 0, 0, 1) := rfl
set_option maxRecDepth 100000 in
set_option maxHeartbeats 4000000 in
theorem p193_ok (d : Nat) (h : HS) (w : WF h) (a0 : Int32) (r : Int32) (hp : p193 h a0 = some r) : ex (d + 1) 193 (ent 193 [.ref (86), .int (a0)] h) = some (some (.int (r)), h) := by
  rw [show ent 193 [.ref (86), .int (a0)] h = (0, [some (.ref (86)), some (.int (a0))], [], h) from by  rfl]
  refine ex_weak (ls := [some (.ref (86)), some (.int (a0))]) (le2_ok ⟨Or.inr rfl, Or.inr rfl, trivial⟩) ?_
  unfold p193 at hp
  refine e_iload_n f193_0 rfl ?_
  refine e_iconst (v := 0) f193_1 (by decide) ?_
  refine e_aload_n f193_2 rfl ?_
  refine e_getI f193_3 (WF.t w 86 (by decide)) (by decide) ?_
  refine e_iconst (v := 1) f193_6 (by decide) ?_
  refine e_isub f193_7 ?_
  obtain ⟨r1, hr2, hp⟩ := bind_some hp
  try dsimp only at hp
  refine e_callS (st := []) (as := [.int (a0), .int (0), .int ((hI (h) (86) 3) - (1))]) f193_8 (by decide) rfl rfl (Nat.le_of_ble_eq_true rfl) (Nat.le_of_ble_eq_true rfl) (p187_ok d (h) w (a0) (0) ((hI (h) (86) 3) - (1)) r1 hr2) ?_
  show ex _ 193 (11, [some (.ref (86)), some (.int (a0))], [.int (r1)], h) = _
  by_cases hg3 : (r1) = (0 : Int32) ∨ (r1) = (1 : Int32)
  rotate_left
  · rw [if_neg hg3] at hp; cases hp
  rw [if_pos hg3] at hp
  have hp := Option.some.inj hp
  subst hp
  exact e_ireturn f193_11 (Or.inr hg3)
theorem f194_0 : fetch 194 0 = some (.aload_n 0, 0, 0, 0) := rfl
theorem f194_1 : fetch 194 1 = some (.iload_n 1, 0, 0, 0) := rfl
theorem f194_2 : fetch 194 2 = some (.invokevirtual 256, 193, 1, 0) := rfl
theorem f194_5 : fetch 194 5 = some (.ifCond .eq 13, 18, 0, 0) := rfl
theorem f194_8 : fetch 194 8 = some (.iload_n 2, 0, 0, 0) := rfl
theorem f194_9 : fetch 194 9 = some (.iconst 0, 0, 0, 0) := rfl
theorem f194_10 : fetch 194 10 = some (.bipush 6, 0, 0, 0) := rfl
theorem f194_12 : fetch 194 12 = some (.invokestatic 240, 187, 3, 1) := rfl
theorem f194_15 : fetch 194 15 = some (.ifCond .ne 7, 22, 0, 0) := rfl
theorem f194_18 : fetch 194 18 = some (.ldc_w 260, 0, 0, -40000) := rfl
theorem f194_21 : fetch 194 21 = some (.ireturn, 0, 0, 0) := rfl
theorem f194_22 : fetch 194 22 = some (.iload_n 2, 0, 0, 0) := rfl
theorem f194_23 : fetch 194 23 = some (.ifCond .ne 12, 35, 0, 0) := rfl
theorem f194_26 : fetch 194 26 = some (.aload_n 0, 0, 0, 0) := rfl
theorem f194_27 : fetch 194 27 = some (.getfield 13, 12, 5, 2) := rfl
theorem f194_30 : fetch 194 30 = some (.iload_n 1, 0, 0, 0) := rfl
theorem f194_31 : fetch 194 31 = some (.iaload, 0, 0, 0) := rfl
theorem f194_32 : fetch 194 32 = some (.goto 44, 76, 0, 0) := rfl
theorem f194_35 : fetch 194 35 = some (.iload_n 2, 0, 0, 0) := rfl
theorem f194_36 : fetch 194 36 = some (.iconst 1, 0, 0, 0) := rfl
theorem f194_37 : fetch 194 37 = some (.if_icmp .ne 12, 49, 0, 0) := rfl
theorem f194_40 : fetch 194 40 = some (.aload_n 0, 0, 0, 0) := rfl
theorem f194_41 : fetch 194 41 = some (.getfield 16, 12, 6, 2) := rfl
theorem f194_44 : fetch 194 44 = some (.iload_n 1, 0, 0, 0) := rfl
theorem f194_45 : fetch 194 45 = some (.iaload, 0, 0, 0) := rfl
theorem f194_46 : fetch 194 46 = some (.goto 30, 76, 0, 0) := rfl
theorem f194_49 : fetch 194 49 = some (.iload_n 2, 0, 0, 0) := rfl
theorem f194_50 : fetch 194 50 = some (.bipush 6, 0, 0, 0) := rfl
theorem f194_52 : fetch 194 52 = some (.if_icmp .ne 12, 64, 0, 0) := rfl
theorem f194_55 : fetch 194 55 = some (.aload_n 0, 0, 0, 0) := rfl
theorem f194_56 : fetch 194 56 = some (.getfield 22, 12, 8, 2) := rfl
theorem f194_59 : fetch 194 59 = some (.iload_n 1, 0, 0, 0) := rfl
theorem f194_60 : fetch 194 60 = some (.iaload, 0, 0, 0) := rfl
theorem f194_61 : fetch 194 61 = some (.goto 15, 76, 0, 0) := rfl
theorem f194_64 : fetch 194 64 = some (.aload_n 0, 0, 0, 0) := rfl
theorem f194_65 : fetch 194 65 = some (.getfield 19, 12, 7, 2) := rfl
theorem f194_68 : fetch 194 68 = some (.iconst 4, 0, 0, 0) := rfl
theorem f194_69 : fetch 194 69 = some (.iload_n 1, 0, 0, 0) := rfl
theorem f194_70 : fetch 194 70 = some (.imul, 0, 0, 0) := rfl
theorem f194_71 : fetch 194 71 = some (.iload_n 2, 0, 0, 0) := rfl
theorem f194_72 : fetch 194 72 = some (.iadd, 0, 0, 0) := rfl
theorem f194_73 : fetch 194 73 = some (.iconst 2, 0, 0, 0) := rfl
theorem f194_74 : fetch 194 74 = some (.isub, 0, 0, 0) := rfl
theorem f194_75 : fetch 194 75 = some (.iaload, 0, 0, 0) := rfl
theorem f194_76 : fetch 194 76 = some (.ireturn, 0, 0, 0) := rfl
set_option maxRecDepth 100000 in
set_option maxHeartbeats 4000000 in
theorem p194_ok (d : Nat) (h : HS) (w : WF h) (a0 : Int32) (a1 : Int32) (r : Int32) (hp : p194 h a0 a1 = some r) : ex (d + 2) 194 (ent 194 [.ref (86), .int (a0), .int (a1)] h) = some (some (.int (r)), h) := by
  rw [show ent 194 [.ref (86), .int (a0), .int (a1)] h = (0, [some (.ref (86)), some (.int (a0)), some (.int (a1))], [], h) from by  rfl]
  refine ex_weak (ls := [some (.ref (86)), some (.int (a0)), some (.int (a1))]) (le2_ok ⟨Or.inr rfl, Or.inr rfl, Or.inr rfl, trivial⟩) ?_
  unfold p194 at hp
  refine e_aload_n f194_0 rfl ?_
  refine e_iload_n f194_1 rfl ?_
  obtain ⟨r1, hr2, hp⟩ := bind_some hp
  try dsimp only at hp
  refine e_callV (st := []) (o := 86) (as := [.int (a0)]) f194_2 (by decide) rfl rfl (Nat.le_of_ble_eq_true rfl) (WF.t w 86 (by decide)) (Nat.le_of_ble_eq_true rfl) (p193_ok d (h) w (a0) r1 hr2) ?_
  show ex _ 194 (5, [some (.ref (86)), some (.int (a0)), some (.int (a1))], [.int (r1)], h) = _
  by_cases hc3 : (r1) = (0 : Int32)
  · rw [if_pos hc3] at hp
    refine e_if_eq_t f194_5 hc3 ?_
    refine e_ldcw (v := -40000) f194_18 (by decide) (by decide) ?_
    have hp := Option.some.inj hp
    subst hp
    exact e_ireturn f194_21 (Or.inl rfl)
  · rw [if_neg hc3] at hp
    refine e_if_eq_f f194_5 hc3 ?_
    refine e_iload_n f194_8 rfl ?_
    refine e_iconst (v := 0) f194_9 (by decide) ?_
    refine e_bipush (v := 6) f194_10 (by decide) ?_
    obtain ⟨r4, hr5, hp⟩ := bind_some hp
    try dsimp only at hp
    refine e_callS (st := []) (as := [.int (a1), .int (0), .int (6)]) f194_12 (by decide) rfl rfl (Nat.le_of_ble_eq_true rfl) (Nat.le_of_ble_eq_true rfl) (p187_ok (d + 1) (h) w (a1) (0) (6) r4 hr5) ?_
    show ex _ 194 (15, [some (.ref (86)), some (.int (a0)), some (.int (a1))], [.int (r4)], h) = _
    by_cases hc6 : (r4) = (0 : Int32)
    · rw [if_pos hc6] at hp
      refine e_if_ne_f f194_15 hc6 ?_
      refine e_ldcw (v := -40000) f194_18 (by decide) (by decide) ?_
      have hp := Option.some.inj hp
      subst hp
      exact e_ireturn f194_21 (Or.inl rfl)
    · rw [if_neg hc6] at hp
      refine e_if_ne_t f194_15 hc6 ?_
      refine e_iload_n f194_22 rfl ?_
      by_cases hc7 : (a1) = (0 : Int32)
      · rw [if_pos hc7] at hp
        refine e_if_ne_f f194_23 hc7 ?_
        refine e_aload_n f194_26 rfl ?_
        refine e_getR f194_27 (WF.t w 86 (by decide)) rfl (WF.r (q := 88) w 86 5 (by decide)) ?_
        refine e_iload_n f194_30 rfl ?_
        by_cases hg8 : (a0) < (0 : Int32) ∨ 200 ≤ (a0).toNatClampNeg
        · rw [if_pos hg8] at hp; cases hp
        rw [if_neg hg8] at hp
        refine e_iaload f194_31 (Or.inl (WF.t w 88 (by decide))) (WF.n w 88 (by decide)) hg8 ?_
        refine e_goto f194_32 ?_
        have hp := Option.some.inj hp
        subst hp
        exact e_ireturn f194_76 (Or.inl rfl)
      · rw [if_neg hc7] at hp
        refine e_if_ne_t f194_23 hc7 ?_
        refine e_iload_n f194_35 rfl ?_
        refine e_iconst (v := 1) f194_36 (by decide) ?_
        by_cases hc9 : (a1) = ((1) : Int32)
        · rw [if_pos hc9] at hp
          refine e_icmp_ne_f f194_37 hc9 ?_
          refine e_aload_n f194_40 rfl ?_
          refine e_getR f194_41 (WF.t w 86 (by decide)) rfl (WF.r (q := 89) w 86 6 (by decide)) ?_
          refine e_iload_n f194_44 rfl ?_
          by_cases hg10 : (a0) < (0 : Int32) ∨ 200 ≤ (a0).toNatClampNeg
          · rw [if_pos hg10] at hp; cases hp
          rw [if_neg hg10] at hp
          refine e_iaload f194_45 (Or.inl (WF.t w 89 (by decide))) (WF.n w 89 (by decide)) hg10 ?_
          refine e_goto f194_46 ?_
          have hp := Option.some.inj hp
          subst hp
          exact e_ireturn f194_76 (Or.inl rfl)
        · rw [if_neg hc9] at hp
          refine e_icmp_ne_t f194_37 hc9 ?_
          refine e_iload_n f194_49 rfl ?_
          refine e_bipush (v := 6) f194_50 (by decide) ?_
          by_cases hc11 : (a1) = ((6) : Int32)
          · rw [if_pos hc11] at hp
            refine e_icmp_ne_f f194_52 hc11 ?_
            refine e_aload_n f194_55 rfl ?_
            refine e_getR f194_56 (WF.t w 86 (by decide)) rfl (WF.r (q := 91) w 86 8 (by decide)) ?_
            refine e_iload_n f194_59 rfl ?_
            by_cases hg12 : (a0) < (0 : Int32) ∨ 200 ≤ (a0).toNatClampNeg
            · rw [if_pos hg12] at hp; cases hp
            rw [if_neg hg12] at hp
            refine e_iaload f194_60 (Or.inl (WF.t w 91 (by decide))) (WF.n w 91 (by decide)) hg12 ?_
            refine e_goto f194_61 ?_
            have hp := Option.some.inj hp
            subst hp
            exact e_ireturn f194_76 (Or.inl rfl)
          · rw [if_neg hc11] at hp
            refine e_icmp_ne_t f194_52 hc11 ?_
            refine e_aload_n f194_64 rfl ?_
            refine e_getR f194_65 (WF.t w 86 (by decide)) rfl (WF.r (q := 90) w 86 7 (by decide)) ?_
            refine e_iconst (v := 4) f194_68 (by decide) ?_
            refine e_iload_n f194_69 rfl ?_
            refine e_imul f194_70 ?_
            refine e_iload_n f194_71 rfl ?_
            refine e_iadd f194_72 ?_
            refine e_iconst (v := 2) f194_73 (by decide) ?_
            refine e_isub f194_74 ?_
            by_cases hg13 : ((((4) * (a0)) + (a1)) - (2)) < (0 : Int32) ∨ 800 ≤ ((((4) * (a0)) + (a1)) - (2)).toNatClampNeg
            · rw [if_pos hg13] at hp; cases hp
            rw [if_neg hg13] at hp
            refine e_iaload f194_75 (Or.inl (WF.t w 90 (by decide))) (WF.n w 90 (by decide)) hg13 ?_
            have hp := Option.some.inj hp
            subst hp
            exact e_ireturn f194_76 (Or.inl rfl)
theorem f195_0 : fetch 195 0 = some (.aload_n 0, 0, 0, 0) := rfl
theorem f195_1 : fetch 195 1 = some (.getfield 19, 12, 7, 2) := rfl
theorem f195_4 : fetch 195 4 = some (.iconst 4, 0, 0, 0) := rfl
theorem f195_5 : fetch 195 5 = some (.iload_n 1, 0, 0, 0) := rfl
theorem f195_6 : fetch 195 6 = some (.imul, 0, 0, 0) := rfl
theorem f195_7 : fetch 195 7 = some (.iconst 1, 0, 0, 0) := rfl
theorem f195_8 : fetch 195 8 = some (.iadd, 0, 0, 0) := rfl
theorem f195_9 : fetch 195 9 = some (.iload_n 3, 0, 0, 0) := rfl
theorem f195_10 : fetch 195 10 = some (.iadd, 0, 0, 0) := rfl
theorem f195_11 : fetch 195 11 = some (.iaload, 0, 0, 0) := rfl
theorem f195_12 : fetch 195 12 = some (.istore 4, 0, 0, 0) := rfl
theorem f195_14 : fetch 195 14 = some (.aload_n 0, 0, 0, 0) := rfl
theorem f195_15 : fetch 195 15 = some (.getfield 19, 12, 7, 2) := rfl
theorem f195_18 : fetch 195 18 = some (.iconst 4, 0, 0, 0) := rfl
theorem f195_19 : fetch 195 19 = some (.iload_n 2, 0, 0, 0) := rfl
theorem f195_20 : fetch 195 20 = some (.imul, 0, 0, 0) := rfl
theorem f195_21 : fetch 195 21 = some (.iload_n 3, 0, 0, 0) := rfl
theorem f195_22 : fetch 195 22 = some (.ifCond .ne 7, 29, 0, 0) := rfl
theorem f195_25 : fetch 195 25 = some (.iconst 3, 0, 0, 0) := rfl
theorem f195_26 : fetch 195 26 = some (.goto 4, 30, 0, 0) := rfl
theorem f195_29 : fetch 195 29 = some (.iconst 0, 0, 0, 0) := rfl
theorem f195_30 : fetch 195 30 = some (.iadd, 0, 0, 0) := rfl
theorem f195_31 : fetch 195 31 = some (.iaload, 0, 0, 0) := rfl
theorem f195_32 : fetch 195 32 = some (.istore 5, 0, 0, 0) := rfl
theorem f195_34 : fetch 195 34 = some (.iload 4, 0, 0, 0) := rfl
theorem f195_36 : fetch 195 36 = some (.ifCond .eq 46, 82, 0, 0) := rfl
theorem f195_39 : fetch 195 39 = some (.iload 4, 0, 0, 0) := rfl
theorem f195_41 : fetch 195 41 = some (.sipush (-32768), 0, 0, 0) := rfl
theorem f195_44 : fetch 195 44 = some (.if_icmp .eq 38, 82, 0, 0) := rfl
theorem f195_47 : fetch 195 47 = some (.iload 5, 0, 0, 0) := rfl
theorem f195_49 : fetch 195 49 = some (.sipush (-32768), 0, 0, 0) := rfl
theorem f195_52 : fetch 195 52 = some (.if_icmp .eq 30, 82, 0, 0) := rfl
theorem f195_55 : fetch 195 55 = some (.iload 4, 0, 0, 0) := rfl
theorem f195_57 : fetch 195 57 = some (.iload 5, 0, 0, 0) := rfl
theorem f195_59 : fetch 195 59 = some (.ineg, 0, 0, 0) := rfl
theorem f195_60 : fetch 195 60 = some (.if_icmp .ne 22, 82, 0, 0) := rfl
theorem f195_63 : fetch 195 63 = some (.aload_n 0, 0, 0, 0) := rfl
theorem f195_64 : fetch 195 64 = some (.getfield 16, 12, 6, 2) := rfl
theorem f195_67 : fetch 195 67 = some (.iload_n 1, 0, 0, 0) := rfl
theorem f195_68 : fetch 195 68 = some (.iaload, 0, 0, 0) := rfl
theorem f195_69 : fetch 195 69 = some (.aload_n 0, 0, 0, 0) := rfl
theorem f195_70 : fetch 195 70 = some (.getfield 16, 12, 6, 2) := rfl
theorem f195_73 : fetch 195 73 = some (.iload_n 2, 0, 0, 0) := rfl
theorem f195_74 : fetch 195 74 = some (.iaload, 0, 0, 0) := rfl
theorem f195_75 : fetch 195 75 = some (.if_icmp .ne 7, 82, 0, 0) := rfl
theorem f195_78 : fetch 195 78 = some (.iconst 1, 0, 0, 0) := rfl
theorem f195_79 : fetch 195 79 = some (.goto 4, 83, 0, 0) := rfl
theorem f195_82 : fetch 195 82 = some (.iconst 0, 0, 0, 0) := rfl
theorem f195_83 : fetch 195 83 = some (.ireturn, 0, 0, 1) := rfl
set_option maxRecDepth 100000 in
set_option maxHeartbeats 4000000 in
theorem p195_j30_ok (d : Nat) (a0 : Int32) (a1 : Int32) (a2 : Int32) (h : HS) (w : WF h)  (v4 : Int32) (s0 : Int32) (s1 : Int32) (r : Int32) (hp : p195_j30 a0 a1 a2 h v4 s0 s1 = some r) : ex (d + 0) 195 (30, [some (.ref (86)), some (.int (a0)), some (.int (a1)), none, some (.int (v4)), none], [.int (s0), .int (s1), .ref (90)], h) = some (some (.int (r)), h) := by
  unfold p195_j30 at hp
  refine e_iadd f195_30 ?_
  by_cases hg3 : ((s1) + (s0)) < (0 : Int32) ∨ 800 ≤ ((s1) + (s0)).toNatClampNeg
  · rw [if_pos hg3] at hp; cases hp
  rw [if_neg hg3] at hp
  refine e_iaload f195_31 (Or.inl (WF.t w 90 (by decide))) (WF.n w 90 (by decide)) hg3 ?_
  refine e_istore (ls2 := [some (.ref (86)), some (.int (a0)), some (.int (a1)), none, some (.int (v4)), some (.int (hI (h) (90) ((s1) + (s0)).toNatClampNeg))]) f195_32 (Nat.le_of_ble_eq_true rfl) rfl ?_
  refine e_iload f195_34 rfl ?_
  by_cases hc4 : (v4) = (0 : Int32)
  · rw [if_pos hc4] at hp
    refine e_if_eq_t f195_36 hc4 ?_
    refine e_iconst (v := 0) f195_82 (by decide) ?_
    have hp := Option.some.inj hp
    subst hp
    exact e_ireturn f195_83 (by decide)
  · rw [if_neg hc4] at hp
    refine e_if_eq_f f195_36 hc4 ?_
    refine e_iload f195_39 rfl ?_
    refine e_sipush (v := -32768) f195_41 (by decide) ?_
    by_cases hc5 : (v4) = (((-32768)) : Int32)
    · rw [if_pos hc5] at hp
      refine e_icmp_eq_t f195_44 hc5 ?_
      refine e_iconst (v := 0) f195_82 (by decide) ?_
      have hp := Option.some.inj hp
      subst hp
      exact e_ireturn f195_83 (by decide)
    · rw [if_neg hc5] at hp
      refine e_icmp_eq_f f195_44 hc5 ?_
      refine e_iload f195_47 rfl ?_
      refine e_sipush (v := -32768) f195_49 (by decide) ?_
      by_cases hc6 : (hI (h) (90) ((s1) + (s0)).toNatClampNeg) = (((-32768)) : Int32)
      · rw [if_pos hc6] at hp
        refine e_icmp_eq_t f195_52 hc6 ?_
        refine e_iconst (v := 0) f195_82 (by decide) ?_
        have hp := Option.some.inj hp
        subst hp
        exact e_ireturn f195_83 (by decide)
      · rw [if_neg hc6] at hp
        refine e_icmp_eq_f f195_52 hc6 ?_
        refine e_iload f195_55 rfl ?_
        refine e_iload f195_57 rfl ?_
        refine e_ineg f195_59 ?_
        by_cases hc7 : (v4) = ((-(hI (h) (90) ((s1) + (s0)).toNatClampNeg)) : Int32)
        · rw [if_pos hc7] at hp
          refine e_icmp_ne_f f195_60 hc7 ?_
          refine e_aload_n f195_63 rfl ?_
          refine e_getR f195_64 (WF.t w 86 (by decide)) rfl (WF.r (q := 89) w 86 6 (by decide)) ?_
          refine e_iload_n f195_67 rfl ?_
          by_cases hg8 : (a0) < (0 : Int32) ∨ 200 ≤ (a0).toNatClampNeg
          · rw [if_pos hg8] at hp; cases hp
          rw [if_neg hg8] at hp
          refine e_iaload f195_68 (Or.inl (WF.t w 89 (by decide))) (WF.n w 89 (by decide)) hg8 ?_
          refine e_aload_n f195_69 rfl ?_
          refine e_getR f195_70 (WF.t w 86 (by decide)) rfl (WF.r (q := 89) w 86 6 (by decide)) ?_
          refine e_iload_n f195_73 rfl ?_
          by_cases hg9 : (a1) < (0 : Int32) ∨ 200 ≤ (a1).toNatClampNeg
          · rw [if_pos hg9] at hp; cases hp
          rw [if_neg hg9] at hp
          refine e_iaload f195_74 (Or.inl (WF.t w 89 (by decide))) (WF.n w 89 (by decide)) hg9 ?_
          by_cases hc10 : (hI (h) (89) (a0).toNatClampNeg) = ((hI (h) (89) (a1).toNatClampNeg) : Int32)
          · rw [if_pos hc10] at hp
            refine e_icmp_ne_f f195_75 hc10 ?_
            refine e_iconst (v := 1) f195_78 (by decide) ?_
            refine e_goto f195_79 ?_
            have hp := Option.some.inj hp
            subst hp
            exact e_ireturn f195_83 (by decide)
          · rw [if_neg hc10] at hp
            refine e_icmp_ne_t f195_75 hc10 ?_
            refine e_iconst (v := 0) f195_82 (by decide) ?_
            have hp := Option.some.inj hp
            subst hp
            exact e_ireturn f195_83 (by decide)
        · rw [if_neg hc7] at hp
          refine e_icmp_ne_t f195_60 hc7 ?_
          refine e_iconst (v := 0) f195_82 (by decide) ?_
          have hp := Option.some.inj hp
          subst hp
          exact e_ireturn f195_83 (by decide)
set_option maxRecDepth 100000 in
set_option maxHeartbeats 4000000 in
theorem p195_ok (d : Nat) (h : HS) (w : WF h) (a0 : Int32) (a1 : Int32) (a2 : Int32) (r : Int32) (hp : p195 h a0 a1 a2 = some r) : ex (d + 0) 195 (ent 195 [.ref (86), .int (a0), .int (a1), .int (a2)] h) = some (some (.int (r)), h) := by
  rw [show ent 195 [.ref (86), .int (a0), .int (a1), .int (a2)] h = (0, [some (.ref (86)), some (.int (a0)), some (.int (a1)), some (.int (a2)), none, none], [], h) from by  rfl]
  refine ex_weak (ls := [some (.ref (86)), some (.int (a0)), some (.int (a1)), some (.int (a2)), none, none]) (le2_ok ⟨Or.inr rfl, Or.inr rfl, Or.inr rfl, Or.inr rfl, Or.inr rfl, Or.inr rfl, trivial⟩) ?_
  unfold p195 at hp
  refine e_aload_n f195_0 rfl ?_
  refine e_getR f195_1 (WF.t w 86 (by decide)) rfl (WF.r (q := 90) w 86 7 (by decide)) ?_
  refine e_iconst (v := 4) f195_4 (by decide) ?_
  refine e_iload_n f195_5 rfl ?_
  refine e_imul f195_6 ?_
  refine e_iconst (v := 1) f195_7 (by decide) ?_
  refine e_iadd f195_8 ?_
  refine e_iload_n f195_9 rfl ?_
  refine e_iadd f195_10 ?_
  by_cases hg1 : ((((4) * (a0)) + (1)) + (a2)) < (0 : Int32) ∨ 800 ≤ ((((4) * (a0)) + (1)) + (a2)).toNatClampNeg
  · rw [if_pos hg1] at hp; cases hp
  rw [if_neg hg1] at hp
  refine e_iaload f195_11 (Or.inl (WF.t w 90 (by decide))) (WF.n w 90 (by decide)) hg1 ?_
  refine e_istore (ls2 := [some (.ref (86)), some (.int (a0)), some (.int (a1)), some (.int (a2)), some (.int (hI (h) (90) ((((4) * (a0)) + (1)) + (a2)).toNatClampNeg)), none]) f195_12 (Nat.le_of_ble_eq_true rfl) rfl ?_
  refine e_aload_n f195_14 rfl ?_
  refine e_getR f195_15 (WF.t w 86 (by decide)) rfl (WF.r (q := 90) w 86 7 (by decide)) ?_
  refine e_iconst (v := 4) f195_18 (by decide) ?_
  refine e_iload_n f195_19 rfl ?_
  refine e_imul f195_20 ?_
  refine e_iload_n f195_21 rfl ?_
  by_cases hc2 : (a2) = (0 : Int32)
  · rw [if_pos hc2] at hp
    refine e_if_ne_f f195_22 hc2 ?_
    refine e_iconst (v := 3) f195_25 (by decide) ?_
    refine e_goto f195_26 ?_
    refine ex_weak (ls := [some (.ref (86)), some (.int (a0)), some (.int (a1)), none, some (.int (hI (h) (90) ((((4) * (a0)) + (1)) + (a2)).toNatClampNeg)), none]) (le2_ok ⟨Or.inr rfl, Or.inr rfl, Or.inr rfl, Or.inl rfl, Or.inr rfl, Or.inl rfl, trivial⟩) ?_
    exact p195_j30_ok d a0 a1 a2 (h) (w) (hI (h) (90) ((((4) * (a0)) + (1)) + (a2)).toNatClampNeg) (3) ((4) * (a1)) _ hp
  · rw [if_neg hc2] at hp
    refine e_if_ne_t f195_22 hc2 ?_
    refine e_iconst (v := 0) f195_29 (by decide) ?_
    refine ex_weak (ls := [some (.ref (86)), some (.int (a0)), some (.int (a1)), none, some (.int (hI (h) (90) ((((4) * (a0)) + (1)) + (a2)).toNatClampNeg)), none]) (le2_ok ⟨Or.inr rfl, Or.inr rfl, Or.inr rfl, Or.inl rfl, Or.inr rfl, Or.inl rfl, trivial⟩) ?_
    exact p195_j30_ok d a0 a1 a2 (h) (w) (hI (h) (90) ((((4) * (a0)) + (1)) + (a2)).toNatClampNeg) (0) ((4) * (a1)) _ hp
theorem f196_0 : fetch 196 0 = some (.aload_n 0, 0, 0, 0) := rfl
theorem f196_1 : fetch 196 1 = some (.iload_n 1, 0, 0, 0) := rfl
theorem f196_2 : fetch 196 2 = some (.invokevirtual 256, 193, 1, 0) := rfl
theorem f196_5 : fetch 196 5 = some (.ifCond .eq 25, 30, 0, 0) := rfl
theorem f196_8 : fetch 196 8 = some (.aload_n 0, 0, 0, 0) := rfl
theorem f196_9 : fetch 196 9 = some (.iload_n 2, 0, 0, 0) := rfl
theorem f196_10 : fetch 196 10 = some (.invokevirtual 256, 193, 1, 0) := rfl
theorem f196_13 : fetch 196 13 = some (.ifCond .eq 17, 30, 0, 0) := rfl
theorem f196_16 : fetch 196 16 = some (.iload_n 1, 0, 0, 0) := rfl
theorem f196_17 : fetch 196 17 = some (.iload_n 2, 0, 0, 0) := rfl
theorem f196_18 : fetch 196 18 = some (.if_icmp .eq 12, 30, 0, 0) := rfl
theorem f196_21 : fetch 196 21 = some (.iload_n 3, 0, 0, 0) := rfl
theorem f196_22 : fetch 196 22 = some (.iconst 0, 0, 0, 0) := rfl
theorem f196_23 : fetch 196 23 = some (.iconst 1, 0, 0, 0) := rfl
theorem f196_24 : fetch 196 24 = some (.invokestatic 240, 187, 3, 1) := rfl
theorem f196_27 : fetch 196 27 = some (.ifCond .ne 7, 34, 0, 0) := rfl
theorem f196_30 : fetch 196 30 = some (.iconst (-1), 0, 0, 0) := rfl
theorem f196_31 : fetch 196 31 = some (.goto 18, 49, 0, 0) := rfl
theorem f196_34 : fetch 196 34 = some (.aload_n 0, 0, 0, 0) := rfl
theorem f196_35 : fetch 196 35 = some (.iload_n 1, 0, 0, 0) := rfl
theorem f196_36 : fetch 196 36 = some (.iload_n 2, 0, 0, 0) := rfl
theorem f196_37 : fetch 196 37 = some (.iload_n 3, 0, 0, 0) := rfl
theorem f196_38 : fetch 196 38 = some (.invokevirtual 261, 195, 3, 0) := rfl
theorem f196_41 : fetch 196 41 = some (.ifCond .eq 7, 48, 0, 0) := rfl
theorem f196_44 : fetch 196 44 = some (.iconst 1, 0, 0, 0) := rfl
theorem f196_45 : fetch 196 45 = some (.goto 4, 49, 0, 0) := rfl
theorem f196_48 : fetch 196 48 = some (.iconst 0, 0, 0, 0) := rfl
theorem f196_49 : fetch 196 49 = some (.ireturn, 0, 0, 0) := rfl
set_option maxRecDepth 100000 in
set_option maxHeartbeats 4000000 in
theorem p196_ok (d : Nat) (h : HS) (w : WF h) (a0 : Int32) (a1 : Int32) (a2 : Int32) (r : Int32) (hp : p196 h a0 a1 a2 = some r) : ex (d + 2) 196 (ent 196 [.ref (86), .int (a0), .int (a1), .int (a2)] h) = some (some (.int (r)), h) := by
  rw [show ent 196 [.ref (86), .int (a0), .int (a1), .int (a2)] h = (0, [some (.ref (86)), some (.int (a0)), some (.int (a1)), some (.int (a2))], [], h) from by  rfl]
  refine ex_weak (ls := [some (.ref (86)), some (.int (a0)), some (.int (a1)), some (.int (a2))]) (le2_ok ⟨Or.inr rfl, Or.inr rfl, Or.inr rfl, Or.inr rfl, trivial⟩) ?_
  unfold p196 at hp
  refine e_aload_n f196_0 rfl ?_
  refine e_iload_n f196_1 rfl ?_
  obtain ⟨r1, hr2, hp⟩ := bind_some hp
  try dsimp only at hp
  refine e_callV (st := []) (o := 86) (as := [.int (a0)]) f196_2 (by decide) rfl rfl (Nat.le_of_ble_eq_true rfl) (WF.t w 86 (by decide)) (Nat.le_of_ble_eq_true rfl) (p193_ok d (h) w (a0) r1 hr2) ?_
  show ex _ 196 (5, [some (.ref (86)), some (.int (a0)), some (.int (a1)), some (.int (a2))], [.int (r1)], h) = _
  by_cases hc3 : (r1) = (0 : Int32)
  · rw [if_pos hc3] at hp
    refine e_if_eq_t f196_5 hc3 ?_
    refine e_iconst (v := -1) f196_30 (by decide) ?_
    refine e_goto f196_31 ?_
    have hp := Option.some.inj hp
    subst hp
    exact e_ireturn f196_49 (Or.inl rfl)
  · rw [if_neg hc3] at hp
    refine e_if_eq_f f196_5 hc3 ?_
    refine e_aload_n f196_8 rfl ?_
    refine e_iload_n f196_9 rfl ?_
    obtain ⟨r4, hr5, hp⟩ := bind_some hp
    try dsimp only at hp
    refine e_callV (st := []) (o := 86) (as := [.int (a1)]) f196_10 (by decide) rfl rfl (Nat.le_of_ble_eq_true rfl) (WF.t w 86 (by decide)) (Nat.le_of_ble_eq_true rfl) (p193_ok d (h) w (a1) r4 hr5) ?_
    show ex _ 196 (13, [some (.ref (86)), some (.int (a0)), some (.int (a1)), some (.int (a2))], [.int (r4)], h) = _
    by_cases hc6 : (r4) = (0 : Int32)
    · rw [if_pos hc6] at hp
      refine e_if_eq_t f196_13 hc6 ?_
      refine e_iconst (v := -1) f196_30 (by decide) ?_
      refine e_goto f196_31 ?_
      have hp := Option.some.inj hp
      subst hp
      exact e_ireturn f196_49 (Or.inl rfl)
    · rw [if_neg hc6] at hp
      refine e_if_eq_f f196_13 hc6 ?_
      refine e_iload_n f196_16 rfl ?_
      refine e_iload_n f196_17 rfl ?_
      by_cases hc7 : (a0) = ((a1) : Int32)
      · rw [if_pos hc7] at hp
        refine e_icmp_eq_t f196_18 hc7 ?_
        refine e_iconst (v := -1) f196_30 (by decide) ?_
        refine e_goto f196_31 ?_
        have hp := Option.some.inj hp
        subst hp
        exact e_ireturn f196_49 (Or.inl rfl)
      · rw [if_neg hc7] at hp
        refine e_icmp_eq_f f196_18 hc7 ?_
        refine e_iload_n f196_21 rfl ?_
        refine e_iconst (v := 0) f196_22 (by decide) ?_
        refine e_iconst (v := 1) f196_23 (by decide) ?_
        obtain ⟨r8, hr9, hp⟩ := bind_some hp
        try dsimp only at hp
        refine e_callS (st := []) (as := [.int (a2), .int (0), .int (1)]) f196_24 (by decide) rfl rfl (Nat.le_of_ble_eq_true rfl) (Nat.le_of_ble_eq_true rfl) (p187_ok (d + 1) (h) w (a2) (0) (1) r8 hr9) ?_
        show ex _ 196 (27, [some (.ref (86)), some (.int (a0)), some (.int (a1)), some (.int (a2))], [.int (r8)], h) = _
        by_cases hc10 : (r8) = (0 : Int32)
        · rw [if_pos hc10] at hp
          refine e_if_ne_f f196_27 hc10 ?_
          refine e_iconst (v := -1) f196_30 (by decide) ?_
          refine e_goto f196_31 ?_
          have hp := Option.some.inj hp
          subst hp
          exact e_ireturn f196_49 (Or.inl rfl)
        · rw [if_neg hc10] at hp
          refine e_if_ne_t f196_27 hc10 ?_
          refine e_aload_n f196_34 rfl ?_
          refine e_iload_n f196_35 rfl ?_
          refine e_iload_n f196_36 rfl ?_
          refine e_iload_n f196_37 rfl ?_
          obtain ⟨r11, hr12, hp⟩ := bind_some hp
          try dsimp only at hp
          refine e_callV (st := []) (o := 86) (as := [.int (a0), .int (a1), .int (a2)]) f196_38 (by decide) rfl rfl (Nat.le_of_ble_eq_true rfl) (WF.t w 86 (by decide)) (Nat.le_of_ble_eq_true rfl) (p195_ok (d + 1) (h) w (a0) (a1) (a2) r11 hr12) ?_
          show ex _ 196 (41, [some (.ref (86)), some (.int (a0)), some (.int (a1)), some (.int (a2))], [.int (r11)], h) = _
          by_cases hc13 : (r11) = (0 : Int32)
          · rw [if_pos hc13] at hp
            refine e_if_eq_t f196_41 hc13 ?_
            refine e_iconst (v := 0) f196_48 (by decide) ?_
            have hp := Option.some.inj hp
            subst hp
            exact e_ireturn f196_49 (Or.inl rfl)
          · rw [if_neg hc13] at hp
            refine e_if_eq_f f196_41 hc13 ?_
            refine e_iconst (v := 1) f196_44 (by decide) ?_
            refine e_goto f196_45 ?_
            have hp := Option.some.inj hp
            subst hp
            exact e_ireturn f196_49 (Or.inl rfl)
theorem f197_0 : fetch 197 0 = some (.iconst 0, 0, 0, 0) := rfl
theorem f197_1 : fetch 197 1 = some (.istore_n 3, 0, 0, 0) := rfl
theorem f197_2 : fetch 197 2 = some (.iconst 0, 0, 0, 0) := rfl
theorem f197_3 : fetch 197 3 = some (.istore 4, 0, 0, 0) := rfl
theorem f197_5 : fetch 197 5 = some (.iload 4, 0, 0, 0) := rfl
theorem f197_7 : fetch 197 7 = some (.iload_n 1, 0, 0, 0) := rfl
theorem f197_8 : fetch 197 8 = some (.iload_n 2, 0, 0, 0) := rfl
theorem f197_9 : fetch 197 9 = some (.imul, 0, 0, 0) := rfl
theorem f197_10 : fetch 197 10 = some (.if_icmp .ge 93, 103, 0, 0) := rfl
theorem f197_13 : fetch 197 13 = some (.iload_n 3, 0, 0, 0) := rfl
theorem f197_14 : fetch 197 14 = some (.iload 4, 0, 0, 0) := rfl
theorem f197_16 : fetch 197 16 = some (.iload_n 1, 0, 0, 0) := rfl
theorem f197_17 : fetch 197 17 = some (.irem, 0, 0, 0) := rfl
theorem f197_18 : fetch 197 18 = some (.iconst 1, 0, 0, 0) := rfl
theorem f197_19 : fetch 197 19 = some (.iadd, 0, 0, 0) := rfl
theorem f197_20 : fetch 197 20 = some (.iload_n 1, 0, 0, 0) := rfl
theorem f197_21 : fetch 197 21 = some (.if_icmp .ge 31, 52, 0, 0) := rfl
theorem f197_24 : fetch 197 24 = some (.aload_n 0, 0, 0, 0) := rfl
theorem f197_25 : fetch 197 25 = some (.aload_n 0, 0, 0, 0) := rfl
theorem f197_26 : fetch 197 26 = some (.getfield 25, 12, 9, 2) := rfl
theorem f197_29 : fetch 197 29 = some (.iload 4, 0, 0, 0) := rfl
theorem f197_31 : fetch 197 31 = some (.iaload, 0, 0, 0) := rfl
theorem f197_32 : fetch 197 32 = some (.aload_n 0, 0, 0, 0) := rfl
theorem f197_33 : fetch 197 33 = some (.getfield 25, 12, 9, 2) := rfl
theorem f197_36 : fetch 197 36 = some (.iload 4, 0, 0, 0) := rfl
theorem f197_38 : fetch 197 38 = some (.iconst 1, 0, 0, 0) := rfl
theorem f197_39 : fetch 197 39 = some (.iadd, 0, 0, 0) := rfl
theorem f197_40 : fetch 197 40 = some (.iaload, 0, 0, 0) := rfl
theorem f197_41 : fetch 197 41 = some (.iconst 0, 0, 0, 0) := rfl
theorem f197_42 : fetch 197 42 = some (.invokevirtual 261, 195, 3, 0) := rfl
theorem f197_45 : fetch 197 45 = some (.ifCond .eq 7, 52, 0, 0) := rfl
theorem f197_48 : fetch 197 48 = some (.iconst 1, 0, 0, 0) := rfl
theorem f197_49 : fetch 197 49 = some (.goto 4, 53, 0, 0) := rfl
theorem f197_52 : fetch 197 52 = some (.iconst 0, 0, 0, 0) := rfl
theorem f197_53 : fetch 197 53 = some (.iadd, 0, 0, 0) := rfl
theorem f197_54 : fetch 197 54 = some (.istore_n 3, 0, 0, 0) := rfl
theorem f197_55 : fetch 197 55 = some (.iload_n 3, 0, 0, 0) := rfl
theorem f197_56 : fetch 197 56 = some (.iload 4, 0, 0, 0) := rfl
theorem f197_58 : fetch 197 58 = some (.iload_n 1, 0, 0, 0) := rfl
theorem f197_59 : fetch 197 59 = some (.iadd, 0, 0, 0) := rfl
theorem f197_60 : fetch 197 60 = some (.iload_n 1, 0, 0, 0) := rfl
theorem f197_61 : fetch 197 61 = some (.iload_n 2, 0, 0, 0) := rfl
theorem f197_62 : fetch 197 62 = some (.imul, 0, 0, 0) := rfl
theorem f197_63 : fetch 197 63 = some (.if_icmp .ge 31, 94, 0, 0) := rfl
theorem f197_66 : fetch 197 66 = some (.aload_n 0, 0, 0, 0) := rfl
theorem f197_67 : fetch 197 67 = some (.aload_n 0, 0, 0, 0) := rfl
theorem f197_68 : fetch 197 68 = some (.getfield 25, 12, 9, 2) := rfl
theorem f197_71 : fetch 197 71 = some (.iload 4, 0, 0, 0) := rfl
theorem f197_73 : fetch 197 73 = some (.iaload, 0, 0, 0) := rfl
theorem f197_74 : fetch 197 74 = some (.aload_n 0, 0, 0, 0) := rfl
theorem f197_75 : fetch 197 75 = some (.getfield 25, 12, 9, 2) := rfl
theorem f197_78 : fetch 197 78 = some (.iload 4, 0, 0, 0) := rfl
theorem f197_80 : fetch 197 80 = some (.iload_n 1, 0, 0, 0) := rfl
theorem f197_81 : fetch 197 81 = some (.iadd, 0, 0, 0) := rfl
theorem f197_82 : fetch 197 82 = some (.iaload, 0, 0, 0) := rfl
theorem f197_83 : fetch 197 83 = some (.iconst 1, 0, 0, 0) := rfl
theorem f197_84 : fetch 197 84 = some (.invokevirtual 261, 195, 3, 0) := rfl
theorem f197_87 : fetch 197 87 = some (.ifCond .eq 7, 94, 0, 0) := rfl
theorem f197_90 : fetch 197 90 = some (.iconst 1, 0, 0, 0) := rfl
theorem f197_91 : fetch 197 91 = some (.goto 4, 95, 0, 0) := rfl
theorem f197_94 : fetch 197 94 = some (.iconst 0, 0, 0, 0) := rfl
theorem f197_95 : fetch 197 95 = some (.iadd, 0, 0, 0) := rfl
theorem f197_96 : fetch 197 96 = some (.istore_n 3, 0, 0, 0) := rfl
theorem f197_97 : fetch 197 97 = some (.iinc 4 1, 0, 0, 0) := rfl
theorem f197_100 : fetch 197 100 = some (.goto (-95), 5, 0, 0) := rfl
theorem f197_103 : fetch 197 103 = some (.iload_n 3, 0, 0, 0) := rfl
theorem f197_104 : fetch 197 104 = some (.ireturn, 0, 0, 0) := rfl
set_option maxRecDepth 100000 in
set_option maxHeartbeats 4000000 in
theorem p197_j95_ok (d : Nat) (F : Nat) (a0 : Int32) (a1 : Int32) (K5 : Int32 → Int32 → Option (Int32)) (h : HS) (w : WF h) (hK5 : ∀ (u3 : Int32) (u4 : Int32) (r : Int32), K5 u3 u4 = some r → ex (d + 1) 197 (5, [some (.ref (86)), some (.int (a0)), some (.int (a1)), some (.int (u3)), some (.int (u4))], [], h) = some (some (.int (r)), h)) (v4 : Int32) (s0 : Int32) (s1 : Int32) (r : Int32) (hp : p197_j95 F a0 a1 K5 h v4 s0 s1 = some r) : ex (d + 1) 197 (95, [some (.ref (86)), some (.int (a0)), some (.int (a1)), none, some (.int (v4))], [.int (s0), .int (s1)], h) = some (some (.int (r)), h) := by
  unfold p197_j95 at hp
  refine e_iadd f197_95 ?_
  refine e_istore_n (ls2 := [some (.ref (86)), some (.int (a0)), some (.int (a1)), some (.int ((s1) + (s0))), some (.int (v4))]) f197_96 (Nat.le_of_ble_eq_true rfl) rfl ?_
  refine e_iinc (ls2 := [some (.ref (86)), some (.int (a0)), some (.int (a1)), some (.int ((s1) + (s0))), some (.int ((v4) + 1))]) f197_97 (by decide) rfl rfl ?_
  refine e_goto f197_100 ?_
  refine ex_weak (ls := [some (.ref (86)), some (.int (a0)), some (.int (a1)), some (.int ((s1) + (s0))), some (.int ((v4) + 1))]) (le2_ok ⟨Or.inr rfl, Or.inr rfl, Or.inr rfl, Or.inr rfl, Or.inr rfl, trivial⟩) ?_
  exact hK5 ((s1) + (s0)) ((v4) + 1) _ hp
set_option maxRecDepth 100000 in
set_option maxHeartbeats 4000000 in
theorem p197_j94_ok (d : Nat) (F : Nat) (a0 : Int32) (a1 : Int32) (K5 : Int32 → Int32 → Option (Int32)) (h : HS) (w : WF h) (hK5 : ∀ (u3 : Int32) (u4 : Int32) (r : Int32), K5 u3 u4 = some r → ex (d + 1) 197 (5, [some (.ref (86)), some (.int (a0)), some (.int (a1)), some (.int (u3)), some (.int (u4))], [], h) = some (some (.int (r)), h)) (v4 : Int32) (s0 : Int32) (r : Int32) (hp : p197_j94 F a0 a1 K5 h v4 s0 = some r) : ex (d + 1) 197 (94, [some (.ref (86)), some (.int (a0)), some (.int (a1)), none, some (.int (v4))], [.int (s0)], h) = some (some (.int (r)), h) := by
  unfold p197_j94 at hp
  refine e_iconst (v := 0) f197_94 (by decide) ?_
  refine ex_weak (ls := [some (.ref (86)), some (.int (a0)), some (.int (a1)), none, some (.int (v4))]) (le2_ok ⟨Or.inr rfl, Or.inr rfl, Or.inr rfl, Or.inl rfl, Or.inr rfl, trivial⟩) ?_
  exact p197_j95_ok d F a0 a1 (K5) (h) (w) (hK5) (v4) (0) (s0) _ hp
set_option maxRecDepth 100000 in
set_option maxHeartbeats 4000000 in
theorem p197_j53_ok (d : Nat) (F : Nat) (a0 : Int32) (a1 : Int32) (K5 : Int32 → Int32 → Option (Int32)) (h : HS) (w : WF h) (hK5 : ∀ (u3 : Int32) (u4 : Int32) (r : Int32), K5 u3 u4 = some r → ex (d + 1) 197 (5, [some (.ref (86)), some (.int (a0)), some (.int (a1)), some (.int (u3)), some (.int (u4))], [], h) = some (some (.int (r)), h)) (v4 : Int32) (s0 : Int32) (s1 : Int32) (r : Int32) (hp : p197_j53 F a0 a1 K5 h v4 s0 s1 = some r) : ex (d + 1) 197 (53, [some (.ref (86)), some (.int (a0)), some (.int (a1)), none, some (.int (v4))], [.int (s0), .int (s1)], h) = some (some (.int (r)), h) := by
  unfold p197_j53 at hp
  refine e_iadd f197_53 ?_
  refine e_istore_n (ls2 := [some (.ref (86)), some (.int (a0)), some (.int (a1)), some (.int ((s1) + (s0))), some (.int (v4))]) f197_54 (Nat.le_of_ble_eq_true rfl) rfl ?_
  refine e_iload_n f197_55 rfl ?_
  refine e_iload f197_56 rfl ?_
  refine e_iload_n f197_58 rfl ?_
  refine e_iadd f197_59 ?_
  refine e_iload_n f197_60 rfl ?_
  refine e_iload_n f197_61 rfl ?_
  refine e_imul f197_62 ?_
  by_cases hc9 : ((v4) + (a0)) < (((a0) * (a1)) : Int32)
  · rw [if_pos hc9] at hp
    refine e_icmp_ge_f f197_63 hc9 ?_
    refine e_aload_n f197_66 rfl ?_
    refine e_aload_n f197_67 rfl ?_
    refine e_getR f197_68 (WF.t w 86 (by decide)) rfl (WF.r (q := 92) w 86 9 (by decide)) ?_
    refine e_iload f197_71 rfl ?_
    by_cases hg10 : (v4) < (0 : Int32) ∨ 8 ≤ (v4).toNatClampNeg
    · rw [if_pos hg10] at hp; cases hp
    rw [if_neg hg10] at hp
    refine e_iaload f197_73 (Or.inl (WF.t w 92 (by decide))) (WF.n w 92 (by decide)) hg10 ?_
    refine e_aload_n f197_74 rfl ?_
    refine e_getR f197_75 (WF.t w 86 (by decide)) rfl (WF.r (q := 92) w 86 9 (by decide)) ?_
    refine e_iload f197_78 rfl ?_
    refine e_iload_n f197_80 rfl ?_
    refine e_iadd f197_81 ?_
    by_cases hg11 : ((v4) + (a0)) < (0 : Int32) ∨ 8 ≤ ((v4) + (a0)).toNatClampNeg
    · rw [if_pos hg11] at hp; cases hp
    rw [if_neg hg11] at hp
    refine e_iaload f197_82 (Or.inl (WF.t w 92 (by decide))) (WF.n w 92 (by decide)) hg11 ?_
    refine e_iconst (v := 1) f197_83 (by decide) ?_
    obtain ⟨r12, hr13, hp⟩ := bind_some hp
    try dsimp only at hp
    refine e_callV (st := [.int ((s1) + (s0))]) (o := 86) (as := [.int (hI (h) (92) (v4).toNatClampNeg), .int (hI (h) (92) ((v4) + (a0)).toNatClampNeg), .int (1)]) f197_84 (by decide) rfl rfl (Nat.le_of_ble_eq_true rfl) (WF.t w 86 (by decide)) (Nat.le_of_ble_eq_true rfl) (p195_ok d (h) w (hI (h) (92) (v4).toNatClampNeg) (hI (h) (92) ((v4) + (a0)).toNatClampNeg) (1) r12 hr13) ?_
    show ex _ 197 (87, [some (.ref (86)), some (.int (a0)), some (.int (a1)), some (.int ((s1) + (s0))), some (.int (v4))], [.int (r12), .int ((s1) + (s0))], h) = _
    by_cases hc14 : (r12) = (0 : Int32)
    · rw [if_pos hc14] at hp
      refine e_if_eq_t f197_87 hc14 ?_
      refine ex_weak (ls := [some (.ref (86)), some (.int (a0)), some (.int (a1)), none, some (.int (v4))]) (le2_ok ⟨Or.inr rfl, Or.inr rfl, Or.inr rfl, Or.inl rfl, Or.inr rfl, trivial⟩) ?_
      exact p197_j94_ok d F a0 a1 (K5) (h) (w) (hK5) (v4) ((s1) + (s0)) _ hp
    · rw [if_neg hc14] at hp
      refine e_if_eq_f f197_87 hc14 ?_
      refine e_iconst (v := 1) f197_90 (by decide) ?_
      refine e_goto f197_91 ?_
      refine ex_weak (ls := [some (.ref (86)), some (.int (a0)), some (.int (a1)), none, some (.int (v4))]) (le2_ok ⟨Or.inr rfl, Or.inr rfl, Or.inr rfl, Or.inl rfl, Or.inr rfl, trivial⟩) ?_
      exact p197_j95_ok d F a0 a1 (K5) (h) (w) (hK5) (v4) (1) ((s1) + (s0)) _ hp
  · rw [if_neg hc9] at hp
    refine e_icmp_ge_t f197_63 hc9 ?_
    refine ex_weak (ls := [some (.ref (86)), some (.int (a0)), some (.int (a1)), none, some (.int (v4))]) (le2_ok ⟨Or.inr rfl, Or.inr rfl, Or.inr rfl, Or.inl rfl, Or.inr rfl, trivial⟩) ?_
    exact p197_j94_ok d F a0 a1 (K5) (h) (w) (hK5) (v4) ((s1) + (s0)) _ hp
set_option maxRecDepth 100000 in
set_option maxHeartbeats 4000000 in
theorem p197_j52_ok (d : Nat) (F : Nat) (a0 : Int32) (a1 : Int32) (K5 : Int32 → Int32 → Option (Int32)) (h : HS) (w : WF h) (hK5 : ∀ (u3 : Int32) (u4 : Int32) (r : Int32), K5 u3 u4 = some r → ex (d + 1) 197 (5, [some (.ref (86)), some (.int (a0)), some (.int (a1)), some (.int (u3)), some (.int (u4))], [], h) = some (some (.int (r)), h)) (v4 : Int32) (s0 : Int32) (r : Int32) (hp : p197_j52 F a0 a1 K5 h v4 s0 = some r) : ex (d + 1) 197 (52, [some (.ref (86)), some (.int (a0)), some (.int (a1)), none, some (.int (v4))], [.int (s0)], h) = some (some (.int (r)), h) := by
  unfold p197_j52 at hp
  refine e_iconst (v := 0) f197_52 (by decide) ?_
  refine ex_weak (ls := [some (.ref (86)), some (.int (a0)), some (.int (a1)), none, some (.int (v4))]) (le2_ok ⟨Or.inr rfl, Or.inr rfl, Or.inr rfl, Or.inl rfl, Or.inr rfl, trivial⟩) ?_
  exact p197_j53_ok d F a0 a1 (K5) (h) (w) (hK5) (v4) (0) (s0) _ hp
set_option maxRecDepth 100000 in
set_option maxHeartbeats 4000000 in
theorem p197_L5_ok (d : Nat) (F : Nat) (a0 : Int32) (a1 : Int32) (h : HS) (w : WF h)  : ∀ (n : Nat) (v3 : Int32) (v4 : Int32) (r : Int32), p197_L5 F a0 a1 n h v3 v4 = some r → ex (d + 1) 197 (5, [some (.ref (86)), some (.int (a0)), some (.int (a1)), some (.int (v3)), some (.int (v4))], [], h) = some (some (.int (r)), h) := by
  intro n
  induction n with
  | zero => intro v3 v4 r hp; cases hp
  | succ n ih =>
    intro v3 v4 r hp
    unfold p197_L5 at hp
    refine e_iload f197_5 rfl ?_
    refine e_iload_n f197_7 rfl ?_
    refine e_iload_n f197_8 rfl ?_
    refine e_imul f197_9 ?_
    by_cases hc1 : (v4) < (((a0) * (a1)) : Int32)
    · rw [if_pos hc1] at hp
      refine e_icmp_ge_f f197_10 hc1 ?_
      refine e_iload_n f197_13 rfl ?_
      refine e_iload f197_14 rfl ?_
      refine e_iload_n f197_16 rfl ?_
      by_cases hg2 : (a0) = (0 : Int32)
      · rw [if_pos hg2] at hp; cases hp
      rw [if_neg hg2] at hp
      refine e_irem f197_17 hg2 ?_
      refine e_iconst (v := 1) f197_18 (by decide) ?_
      refine e_iadd f197_19 ?_
      refine e_iload_n f197_20 rfl ?_
      by_cases hc3 : (((v4) - (v4) / (a0) * (a0)) + (1)) < ((a0) : Int32)
      · rw [if_pos hc3] at hp
        refine e_icmp_ge_f f197_21 hc3 ?_
        refine e_aload_n f197_24 rfl ?_
        refine e_aload_n f197_25 rfl ?_
        refine e_getR f197_26 (WF.t w 86 (by decide)) rfl (WF.r (q := 92) w 86 9 (by decide)) ?_
        refine e_iload f197_29 rfl ?_
        by_cases hg4 : (v4) < (0 : Int32) ∨ 8 ≤ (v4).toNatClampNeg
        · rw [if_pos hg4] at hp; cases hp
        rw [if_neg hg4] at hp
        refine e_iaload f197_31 (Or.inl (WF.t w 92 (by decide))) (WF.n w 92 (by decide)) hg4 ?_
        refine e_aload_n f197_32 rfl ?_
        refine e_getR f197_33 (WF.t w 86 (by decide)) rfl (WF.r (q := 92) w 86 9 (by decide)) ?_
        refine e_iload f197_36 rfl ?_
        refine e_iconst (v := 1) f197_38 (by decide) ?_
        refine e_iadd f197_39 ?_
        by_cases hg5 : ((v4) + (1)) < (0 : Int32) ∨ 8 ≤ ((v4) + (1)).toNatClampNeg
        · rw [if_pos hg5] at hp; cases hp
        rw [if_neg hg5] at hp
        refine e_iaload f197_40 (Or.inl (WF.t w 92 (by decide))) (WF.n w 92 (by decide)) hg5 ?_
        refine e_iconst (v := 0) f197_41 (by decide) ?_
        obtain ⟨r6, hr7, hp⟩ := bind_some hp
        try dsimp only at hp
        refine e_callV (st := [.int (v3)]) (o := 86) (as := [.int (hI (h) (92) (v4).toNatClampNeg), .int (hI (h) (92) ((v4) + (1)).toNatClampNeg), .int (0)]) f197_42 (by decide) rfl rfl (Nat.le_of_ble_eq_true rfl) (WF.t w 86 (by decide)) (Nat.le_of_ble_eq_true rfl) (p195_ok d (h) w (hI (h) (92) (v4).toNatClampNeg) (hI (h) (92) ((v4) + (1)).toNatClampNeg) (0) r6 hr7) ?_
        show ex _ 197 (45, [some (.ref (86)), some (.int (a0)), some (.int (a1)), some (.int (v3)), some (.int (v4))], [.int (r6), .int (v3)], h) = _
        by_cases hc8 : (r6) = (0 : Int32)
        · rw [if_pos hc8] at hp
          refine e_if_eq_t f197_45 hc8 ?_
          refine ex_weak (ls := [some (.ref (86)), some (.int (a0)), some (.int (a1)), none, some (.int (v4))]) (le2_ok ⟨Or.inr rfl, Or.inr rfl, Or.inr rfl, Or.inl rfl, Or.inr rfl, trivial⟩) ?_
          exact p197_j52_ok d F a0 a1 ((p197_L5 F a0 a1 n h)) (h) (w) (ih) (v4) (v3) _ hp
        · rw [if_neg hc8] at hp
          refine e_if_eq_f f197_45 hc8 ?_
          refine e_iconst (v := 1) f197_48 (by decide) ?_
          refine e_goto f197_49 ?_
          refine ex_weak (ls := [some (.ref (86)), some (.int (a0)), some (.int (a1)), none, some (.int (v4))]) (le2_ok ⟨Or.inr rfl, Or.inr rfl, Or.inr rfl, Or.inl rfl, Or.inr rfl, trivial⟩) ?_
          exact p197_j53_ok d F a0 a1 ((p197_L5 F a0 a1 n h)) (h) (w) (ih) (v4) (1) (v3) _ hp
      · rw [if_neg hc3] at hp
        refine e_icmp_ge_t f197_21 hc3 ?_
        refine ex_weak (ls := [some (.ref (86)), some (.int (a0)), some (.int (a1)), none, some (.int (v4))]) (le2_ok ⟨Or.inr rfl, Or.inr rfl, Or.inr rfl, Or.inl rfl, Or.inr rfl, trivial⟩) ?_
        exact p197_j52_ok d F a0 a1 ((p197_L5 F a0 a1 n h)) (h) (w) (ih) (v4) (v3) _ hp
    · rw [if_neg hc1] at hp
      refine e_icmp_ge_t f197_10 hc1 ?_
      refine e_iload_n f197_103 rfl ?_
      have hp := Option.some.inj hp
      subst hp
      exact e_ireturn f197_104 (Or.inl rfl)
set_option maxRecDepth 100000 in
set_option maxHeartbeats 4000000 in
theorem p197_ok (d : Nat) (F : Nat) (h : HS) (w : WF h) (a0 : Int32) (a1 : Int32) (r : Int32) (hp : p197 F h a0 a1 = some r) : ex (d + 1) 197 (ent 197 [.ref (86), .int (a0), .int (a1)] h) = some (some (.int (r)), h) := by
  rw [show ent 197 [.ref (86), .int (a0), .int (a1)] h = (0, [some (.ref (86)), some (.int (a0)), some (.int (a1)), none, none], [], h) from by  rfl]
  refine ex_weak (ls := [some (.ref (86)), some (.int (a0)), some (.int (a1)), none, none]) (le2_ok ⟨Or.inr rfl, Or.inr rfl, Or.inr rfl, Or.inr rfl, Or.inr rfl, trivial⟩) ?_
  unfold p197 at hp
  refine e_iconst (v := 0) f197_0 (by decide) ?_
  refine e_istore_n (ls2 := [some (.ref (86)), some (.int (a0)), some (.int (a1)), some (.int (0)), none]) f197_1 (Nat.le_of_ble_eq_true rfl) rfl ?_
  refine e_iconst (v := 0) f197_2 (by decide) ?_
  refine e_istore (ls2 := [some (.ref (86)), some (.int (a0)), some (.int (a1)), some (.int (0)), some (.int (0))]) f197_3 (Nat.le_of_ble_eq_true rfl) rfl ?_
  refine ex_weak (ls := [some (.ref (86)), some (.int (a0)), some (.int (a1)), some (.int (0)), some (.int (0))]) (le2_ok ⟨Or.inr rfl, Or.inr rfl, Or.inr rfl, Or.inr rfl, Or.inr rfl, trivial⟩) ?_
  exact p197_L5_ok d F a0 a1 (h) (w) F (0) (0) _ hp
theorem f199_0 : fetch 199 0 = some (.aload_n 0, 0, 0, 0) := rfl
theorem f199_1 : fetch 199 1 = some (.getfield 25, 12, 9, 2) := rfl
theorem f199_4 : fetch 199 4 = some (.iload_n 1, 0, 0, 0) := rfl
theorem f199_5 : fetch 199 5 = some (.iaload, 0, 0, 0) := rfl
theorem f199_6 : fetch 199 6 = some (.istore_n 3, 0, 0, 0) := rfl
theorem f199_7 : fetch 199 7 = some (.aload_n 0, 0, 0, 0) := rfl
theorem f199_8 : fetch 199 8 = some (.getfield 25, 12, 9, 2) := rfl
theorem f199_11 : fetch 199 11 = some (.iload_n 1, 0, 0, 0) := rfl
theorem f199_12 : fetch 199 12 = some (.aload_n 0, 0, 0, 0) := rfl
theorem f199_13 : fetch 199 13 = some (.getfield 25, 12, 9, 2) := rfl
theorem f199_16 : fetch 199 16 = some (.iload_n 2, 0, 0, 0) := rfl
theorem f199_17 : fetch 199 17 = some (.iaload, 0, 0, 0) := rfl
theorem f199_18 : fetch 199 18 = some (.iastore, 0, 0, 0) := rfl
theorem f199_19 : fetch 199 19 = some (.aload_n 0, 0, 0, 0) := rfl
theorem f199_20 : fetch 199 20 = some (.getfield 25, 12, 9, 2) := rfl
theorem f199_23 : fetch 199 23 = some (.iload_n 2, 0, 0, 0) := rfl
theorem f199_24 : fetch 199 24 = some (.iload_n 3, 0, 0, 0) := rfl
theorem f199_25 : fetch 199 25 = some (.iastore, 0, 0, 0) := rfl
theorem f199_26 : fetch 199 26 = some (.return_, 0, 0, 0) := rfl
set_option maxRecDepth 100000 in
set_option maxHeartbeats 4000000 in
theorem p199_ok (d : Nat) (h : HS) (w : WF h) (a0 : Int32) (a1 : Int32) (r : HS) (hp : p199 h a0 a1 = some r) : ex (d + 0) 199 (ent 199 [.ref (86), .int (a0), .int (a1)] h) = some (none, r) := by
  rw [show ent 199 [.ref (86), .int (a0), .int (a1)] h = (0, [some (.ref (86)), some (.int (a0)), some (.int (a1)), none], [], h) from by  rfl]
  refine ex_weak (ls := [some (.ref (86)), some (.int (a0)), some (.int (a1)), none]) (le2_ok ⟨Or.inr rfl, Or.inr rfl, Or.inr rfl, Or.inr rfl, trivial⟩) ?_
  unfold p199 at hp
  refine e_aload_n f199_0 rfl ?_
  refine e_getR f199_1 (WF.t w 86 (by decide)) rfl (WF.r (q := 92) w 86 9 (by decide)) ?_
  refine e_iload_n f199_4 rfl ?_
  by_cases hg1 : (a0) < (0 : Int32) ∨ 8 ≤ (a0).toNatClampNeg
  · rw [if_pos hg1] at hp; cases hp
  rw [if_neg hg1] at hp
  refine e_iaload f199_5 (Or.inl (WF.t w 92 (by decide))) (WF.n w 92 (by decide)) hg1 ?_
  refine e_istore_n (ls2 := [some (.ref (86)), some (.int (a0)), some (.int (a1)), some (.int (hI (h) (92) (a0).toNatClampNeg))]) f199_6 (Nat.le_of_ble_eq_true rfl) rfl ?_
  refine e_aload_n f199_7 rfl ?_
  refine e_getR f199_8 (WF.t w 86 (by decide)) rfl (WF.r (q := 92) w 86 9 (by decide)) ?_
  refine e_iload_n f199_11 rfl ?_
  refine e_aload_n f199_12 rfl ?_
  refine e_getR f199_13 (WF.t w 86 (by decide)) rfl (WF.r (q := 92) w 86 9 (by decide)) ?_
  refine e_iload_n f199_16 rfl ?_
  by_cases hg2 : (a1) < (0 : Int32) ∨ 8 ≤ (a1).toNatClampNeg
  · rw [if_pos hg2] at hp; cases hp
  rw [if_neg hg2] at hp
  refine e_iaload f199_17 (Or.inl (WF.t w 92 (by decide))) (WF.n w 92 (by decide)) hg2 ?_
  by_cases hg3 : (a0) < (0 : Int32) ∨ 8 ≤ (a0).toNatClampNeg
  · rw [if_pos hg3] at hp; cases hp
  rw [if_neg hg3] at hp
  refine e_iastore f199_18 (WF.t w 92 (by decide)) (WF.n w 92 (by decide)) hg3 ?_
  refine e_aload_n f199_19 rfl ?_
  refine e_getR f199_20 (WF.t w 86 (by decide)) rfl (WF.r (q := 92) w 86 9 (by decide)) ?_
  refine e_iload_n f199_23 rfl ?_
  refine e_iload_n f199_24 rfl ?_
  by_cases hg4 : (a1) < (0 : Int32) ∨ 8 ≤ (a1).toNatClampNeg
  · rw [if_pos hg4] at hp; cases hp
  rw [if_neg hg4] at hp
  refine e_iastore f199_25 (WF.t w 92 (by decide)) (WF.n w 92 (by decide)) hg4 ?_
  obtain ⟨h5, e6, hp⟩ := bind_some hp
  try dsimp only at hp
  have e6 := Option.some.inj e6
  have w7 : WF h5 := e6 ▸ w
  rw [e6]
  have hp := Option.some.inj hp
  subst hp
  exact e_return f199_26
set_option maxRecDepth 100000 in
set_option maxHeartbeats 4000000 in
theorem p199_w (h : HS) (w : WF h) (a0 : Int32) (a1 : Int32) (r : HS) (hp : p199 h a0 a1 = some r) : WF r := by
  unfold p199 at hp
  by_cases hg1 : (a0) < (0 : Int32) ∨ 8 ≤ (a0).toNatClampNeg
  · rw [if_pos hg1] at hp; cases hp
  rw [if_neg hg1] at hp
  by_cases hg2 : (a1) < (0 : Int32) ∨ 8 ≤ (a1).toNatClampNeg
  · rw [if_pos hg2] at hp; cases hp
  rw [if_neg hg2] at hp
  by_cases hg3 : (a0) < (0 : Int32) ∨ 8 ≤ (a0).toNatClampNeg
  · rw [if_pos hg3] at hp; cases hp
  rw [if_neg hg3] at hp
  by_cases hg4 : (a1) < (0 : Int32) ∨ 8 ≤ (a1).toNatClampNeg
  · rw [if_pos hg4] at hp; cases hp
  rw [if_neg hg4] at hp
  obtain ⟨h5, e6, hp⟩ := bind_some hp
  try dsimp only at hp
  have e6 := Option.some.inj e6
  have w7 : WF h5 := e6 ▸ w
  have hp := Option.some.inj hp
  subst hp
  exact (w7)
theorem f198_0 : fetch 198 0 = some (.iload_n 1, 0, 0, 0) := rfl
theorem f198_1 : fetch 198 1 = some (.iconst 2, 0, 0, 0) := rfl
theorem f198_2 : fetch 198 2 = some (.isub, 0, 0, 0) := rfl
theorem f198_3 : fetch 198 3 = some (.istore_n 2, 0, 0, 0) := rfl
theorem f198_4 : fetch 198 4 = some (.iload_n 2, 0, 0, 0) := rfl
theorem f198_5 : fetch 198 5 = some (.ifCond .lt 26, 31, 0, 0) := rfl
theorem f198_8 : fetch 198 8 = some (.aload_n 0, 0, 0, 0) := rfl
theorem f198_9 : fetch 198 9 = some (.getfield 25, 12, 9, 2) := rfl
theorem f198_12 : fetch 198 12 = some (.iload_n 2, 0, 0, 0) := rfl
theorem f198_13 : fetch 198 13 = some (.iaload, 0, 0, 0) := rfl
theorem f198_14 : fetch 198 14 = some (.aload_n 0, 0, 0, 0) := rfl
theorem f198_15 : fetch 198 15 = some (.getfield 25, 12, 9, 2) := rfl
theorem f198_18 : fetch 198 18 = some (.iload_n 2, 0, 0, 0) := rfl
theorem f198_19 : fetch 198 19 = some (.iconst 1, 0, 0, 0) := rfl
theorem f198_20 : fetch 198 20 = some (.iadd, 0, 0, 0) := rfl
theorem f198_21 : fetch 198 21 = some (.iaload, 0, 0, 0) := rfl
theorem f198_22 : fetch 198 22 = some (.if_icmp .le 9, 31, 0, 0) := rfl
theorem f198_25 : fetch 198 25 = some (.iinc 2 (-1), 0, 0, 0) := rfl
theorem f198_28 : fetch 198 28 = some (.goto (-24), 4, 0, 0) := rfl
theorem f198_31 : fetch 198 31 = some (.iload_n 2, 0, 0, 0) := rfl
theorem f198_32 : fetch 198 32 = some (.ifCond .ge 5, 37, 0, 0) := rfl
theorem f198_35 : fetch 198 35 = some (.iconst 0, 0, 0, 0) := rfl
theorem f198_36 : fetch 198 36 = some (.ireturn, 0, 0, 1) := rfl
theorem f198_37 : fetch 198 37 = some (.iload_n 1, 0, 0, 0) := rfl
theorem f198_38 : fetch 198 38 = some (.iconst 1, 0, 0, 0) := rfl
theorem f198_39 : fetch 198 39 = some (.isub, 0, 0, 0) := rfl
theorem f198_40 : fetch 198 40 = some (.istore_n 3, 0, 0, 0) := rfl
theorem f198_41 : fetch 198 41 = some (.aload_n 0, 0, 0, 0) := rfl
theorem f198_42 : fetch 198 42 = some (.getfield 25, 12, 9, 2) := rfl
theorem f198_45 : fetch 198 45 = some (.iload_n 3, 0, 0, 0) := rfl
theorem f198_46 : fetch 198 46 = some (.iaload, 0, 0, 0) := rfl
theorem f198_47 : fetch 198 47 = some (.aload_n 0, 0, 0, 0) := rfl
theorem f198_48 : fetch 198 48 = some (.getfield 25, 12, 9, 2) := rfl
theorem f198_51 : fetch 198 51 = some (.iload_n 2, 0, 0, 0) := rfl
theorem f198_52 : fetch 198 52 = some (.iaload, 0, 0, 0) := rfl
theorem f198_53 : fetch 198 53 = some (.if_icmp .ge 9, 62, 0, 0) := rfl
theorem f198_56 : fetch 198 56 = some (.iinc 3 (-1), 0, 0, 0) := rfl
theorem f198_59 : fetch 198 59 = some (.goto (-18), 41, 0, 0) := rfl
theorem f198_62 : fetch 198 62 = some (.aload_n 0, 0, 0, 0) := rfl
theorem f198_63 : fetch 198 63 = some (.iload_n 2, 0, 0, 0) := rfl
theorem f198_64 : fetch 198 64 = some (.iload_n 3, 0, 0, 0) := rfl
theorem f198_65 : fetch 198 65 = some (.invokevirtual 264, 199, 2, 0) := rfl
theorem f198_68 : fetch 198 68 = some (.iload_n 2, 0, 0, 0) := rfl
theorem f198_69 : fetch 198 69 = some (.iconst 1, 0, 0, 0) := rfl
theorem f198_70 : fetch 198 70 = some (.iadd, 0, 0, 0) := rfl
theorem f198_71 : fetch 198 71 = some (.istore 4, 0, 0, 0) := rfl
theorem f198_73 : fetch 198 73 = some (.iload_n 1, 0, 0, 0) := rfl
theorem f198_74 : fetch 198 74 = some (.iconst 1, 0, 0, 0) := rfl
theorem f198_75 : fetch 198 75 = some (.isub, 0, 0, 0) := rfl
theorem f198_76 : fetch 198 76 = some (.istore 5, 0, 0, 0) := rfl
theorem f198_78 : fetch 198 78 = some (.iload 4, 0, 0, 0) := rfl
theorem f198_80 : fetch 198 80 = some (.iload 5, 0, 0, 0) := rfl
theorem f198_82 : fetch 198 82 = some (.if_icmp .ge 20, 102, 0, 0) := rfl
theorem f198_85 : fetch 198 85 = some (.aload_n 0, 0, 0, 0) := rfl
theorem f198_86 : fetch 198 86 = some (.iload 4, 0, 0, 0) := rfl
theorem f198_88 : fetch 198 88 = some (.iload 5, 0, 0, 0) := rfl
theorem f198_90 : fetch 198 90 = some (.invokevirtual 264, 199, 2, 0) := rfl
theorem f198_93 : fetch 198 93 = some (.iinc 4 1, 0, 0, 0) := rfl
theorem f198_96 : fetch 198 96 = some (.iinc 5 (-1), 0, 0, 0) := rfl
theorem f198_99 : fetch 198 99 = some (.goto (-21), 78, 0, 0) := rfl
theorem f198_102 : fetch 198 102 = some (.iconst 1, 0, 0, 0) := rfl
theorem f198_103 : fetch 198 103 = some (.ireturn, 0, 0, 1) := rfl
set_option maxRecDepth 100000 in
set_option maxHeartbeats 4000000 in
theorem p198_L78_ok (d : Nat) (F : Nat) (a0 : Int32) : ∀ (n : Nat) (h : HS) (w : WF h) (v4 : Int32) (v5 : Int32) (r : Int32 × HS), p198_L78 F a0 n h v4 v5 = some r → ex (d + 1) 198 (78, [some (.ref (86)), none, none, none, some (.int (v4)), some (.int (v5))], [], h) = some (some (.int (r.1)), r.2) := by
  intro n
  induction n with
  | zero => intro h w v4 v5 r hp; cases hp
  | succ n ih =>
    intro h w v4 v5 r hp
    unfold p198_L78 at hp
    refine e_iload f198_78 rfl ?_
    refine e_iload f198_80 rfl ?_
    by_cases hc11 : (v4) < ((v5) : Int32)
    · rw [if_pos hc11] at hp
      refine e_icmp_ge_f f198_82 hc11 ?_
      refine e_aload_n f198_85 rfl ?_
      refine e_iload f198_86 rfl ?_
      refine e_iload f198_88 rfl ?_
      obtain ⟨r12, hr13, hp⟩ := bind_some hp
      try dsimp only at hp
      refine e_callV (st := []) (o := 86) (as := [.int (v4), .int (v5)]) f198_90 (by decide) rfl rfl (Nat.le_of_ble_eq_true rfl) (WF.t w 86 (by decide)) (Nat.le_of_ble_eq_true rfl) (p199_ok d (h) w (v4) (v5) r12 hr13) ?_
      show ex _ 198 (93, [some (.ref (86)), none, none, none, some (.int (v4)), some (.int (v5))], [], r12) = _
      refine e_iinc (ls2 := [some (.ref (86)), none, none, none, some (.int ((v4) + 1)), some (.int (v5))]) f198_93 (by decide) rfl rfl ?_
      refine e_iinc (ls2 := [some (.ref (86)), none, none, none, some (.int ((v4) + 1)), some (.int ((v5) + (-1)))]) f198_96 (by decide) rfl rfl ?_
      refine e_goto f198_99 ?_
      refine ex_weak (ls := [some (.ref (86)), none, none, none, some (.int ((v4) + 1)), some (.int ((v5) + (-1)))]) (le2_ok ⟨Or.inr rfl, Or.inl rfl, Or.inl rfl, Or.inl rfl, Or.inr rfl, Or.inr rfl, trivial⟩) ?_
      exact ih (r12) ((p199_w (h) w (v4) (v5)  r12 hr13)) ((v4) + 1) ((v5) + (-1)) _ hp
    · rw [if_neg hc11] at hp
      refine e_icmp_ge_t f198_82 hc11 ?_
      refine e_iconst (v := 1) f198_102 (by decide) ?_
      have hp := Option.some.inj hp
      subst hp
      exact e_ireturn f198_103 (by decide)
set_option maxRecDepth 100000 in
set_option maxHeartbeats 4000000 in
theorem p198_L78_w (F : Nat) (a0 : Int32) : ∀ (n : Nat) (h : HS) (w : WF h) (v4 : Int32) (v5 : Int32) (r : Int32 × HS), p198_L78 F a0 n h v4 v5 = some r → WF r.2 := by
  intro n
  induction n with
  | zero => intro h w v4 v5 r hp; cases hp
  | succ n ih =>
    intro h w v4 v5 r hp
    unfold p198_L78 at hp
    by_cases hc11 : (v4) < ((v5) : Int32)
    · rw [if_pos hc11] at hp
      obtain ⟨r12, hr13, hp⟩ := bind_some hp
      try dsimp only at hp
      exact ih (r12) ((p199_w (h) w (v4) (v5)  r12 hr13)) ((v4) + 1) ((v5) + (-1)) _ hp
    · rw [if_neg hc11] at hp
      have hp := Option.some.inj hp
      subst hp
      exact (w)
set_option maxRecDepth 100000 in
set_option maxHeartbeats 4000000 in
theorem p198_L41_ok (d : Nat) (F : Nat) (a0 : Int32) : ∀ (n : Nat) (h : HS) (w : WF h) (v2 : Int32) (v3 : Int32) (r : Int32 × HS), p198_L41 F a0 n h v2 v3 = some r → ex (d + 1) 198 (41, [some (.ref (86)), some (.int (a0)), some (.int (v2)), some (.int (v3)), none, none], [], h) = some (some (.int (r.1)), r.2) := by
  intro n
  induction n with
  | zero => intro h w v2 v3 r hp; cases hp
  | succ n ih =>
    intro h w v2 v3 r hp
    unfold p198_L41 at hp
    refine e_aload_n f198_41 rfl ?_
    refine e_getR f198_42 (WF.t w 86 (by decide)) rfl (WF.r (q := 92) w 86 9 (by decide)) ?_
    refine e_iload_n f198_45 rfl ?_
    by_cases hg6 : (v3) < (0 : Int32) ∨ 8 ≤ (v3).toNatClampNeg
    · rw [if_pos hg6] at hp; cases hp
    rw [if_neg hg6] at hp
    refine e_iaload f198_46 (Or.inl (WF.t w 92 (by decide))) (WF.n w 92 (by decide)) hg6 ?_
    refine e_aload_n f198_47 rfl ?_
    refine e_getR f198_48 (WF.t w 86 (by decide)) rfl (WF.r (q := 92) w 86 9 (by decide)) ?_
    refine e_iload_n f198_51 rfl ?_
    by_cases hg7 : (v2) < (0 : Int32) ∨ 8 ≤ (v2).toNatClampNeg
    · rw [if_pos hg7] at hp; cases hp
    rw [if_neg hg7] at hp
    refine e_iaload f198_52 (Or.inl (WF.t w 92 (by decide))) (WF.n w 92 (by decide)) hg7 ?_
    by_cases hc8 : (hI (h) (92) (v3).toNatClampNeg) < ((hI (h) (92) (v2).toNatClampNeg) : Int32)
    · rw [if_pos hc8] at hp
      refine e_icmp_ge_f f198_53 hc8 ?_
      refine e_iinc (ls2 := [some (.ref (86)), some (.int (a0)), some (.int (v2)), some (.int ((v3) + (-1))), none, none]) f198_56 (by decide) rfl rfl ?_
      refine e_goto f198_59 ?_
      refine ex_weak (ls := [some (.ref (86)), some (.int (a0)), some (.int (v2)), some (.int ((v3) + (-1))), none, none]) (le2_ok ⟨Or.inr rfl, Or.inr rfl, Or.inr rfl, Or.inr rfl, Or.inl rfl, Or.inl rfl, trivial⟩) ?_
      exact ih (h) (w) (v2) ((v3) + (-1)) _ hp
    · rw [if_neg hc8] at hp
      refine e_icmp_ge_t f198_53 hc8 ?_
      refine e_aload_n f198_62 rfl ?_
      refine e_iload_n f198_63 rfl ?_
      refine e_iload_n f198_64 rfl ?_
      obtain ⟨r9, hr10, hp⟩ := bind_some hp
      try dsimp only at hp
      refine e_callV (st := []) (o := 86) (as := [.int (v2), .int (v3)]) f198_65 (by decide) rfl rfl (Nat.le_of_ble_eq_true rfl) (WF.t w 86 (by decide)) (Nat.le_of_ble_eq_true rfl) (p199_ok d (h) w (v2) (v3) r9 hr10) ?_
      show ex _ 198 (68, [some (.ref (86)), some (.int (a0)), some (.int (v2)), some (.int (v3)), none, none], [], r9) = _
      refine e_iload_n f198_68 rfl ?_
      refine e_iconst (v := 1) f198_69 (by decide) ?_
      refine e_iadd f198_70 ?_
      refine e_istore (ls2 := [some (.ref (86)), some (.int (a0)), some (.int (v2)), some (.int (v3)), some (.int ((v2) + (1))), none]) f198_71 (Nat.le_of_ble_eq_true rfl) rfl ?_
      refine e_iload_n f198_73 rfl ?_
      refine e_iconst (v := 1) f198_74 (by decide) ?_
      refine e_isub f198_75 ?_
      refine e_istore (ls2 := [some (.ref (86)), some (.int (a0)), some (.int (v2)), some (.int (v3)), some (.int ((v2) + (1))), some (.int ((a0) - (1)))]) f198_76 (Nat.le_of_ble_eq_true rfl) rfl ?_
      refine ex_weak (ls := [some (.ref (86)), none, none, none, some (.int ((v2) + (1))), some (.int ((a0) - (1)))]) (le2_ok ⟨Or.inr rfl, Or.inl rfl, Or.inl rfl, Or.inl rfl, Or.inr rfl, Or.inr rfl, trivial⟩) ?_
      exact p198_L78_ok d F a0 F (r9) ((p199_w (h) w (v2) (v3)  r9 hr10)) ((v2) + (1)) ((a0) - (1)) _ hp
set_option maxRecDepth 100000 in
set_option maxHeartbeats 4000000 in
theorem p198_L41_w (F : Nat) (a0 : Int32) : ∀ (n : Nat) (h : HS) (w : WF h) (v2 : Int32) (v3 : Int32) (r : Int32 × HS), p198_L41 F a0 n h v2 v3 = some r → WF r.2 := by
  intro n
  induction n with
  | zero => intro h w v2 v3 r hp; cases hp
  | succ n ih =>
    intro h w v2 v3 r hp
    unfold p198_L41 at hp
    by_cases hg6 : (v3) < (0 : Int32) ∨ 8 ≤ (v3).toNatClampNeg
    · rw [if_pos hg6] at hp; cases hp
    rw [if_neg hg6] at hp
    by_cases hg7 : (v2) < (0 : Int32) ∨ 8 ≤ (v2).toNatClampNeg
    · rw [if_pos hg7] at hp; cases hp
    rw [if_neg hg7] at hp
    by_cases hc8 : (hI (h) (92) (v3).toNatClampNeg) < ((hI (h) (92) (v2).toNatClampNeg) : Int32)
    · rw [if_pos hc8] at hp
      exact ih (h) (w) (v2) ((v3) + (-1)) _ hp
    · rw [if_neg hc8] at hp
      obtain ⟨r9, hr10, hp⟩ := bind_some hp
      try dsimp only at hp
      exact p198_L78_w F a0 F (r9) ((p199_w (h) w (v2) (v3)  r9 hr10)) ((v2) + (1)) ((a0) - (1)) _ hp
set_option maxRecDepth 100000 in
set_option maxHeartbeats 4000000 in
theorem p198_j31_ok (d : Nat) (F : Nat) (a0 : Int32) (h : HS) (w : WF h) (v2 : Int32) (r : Int32 × HS) (hp : p198_j31 F a0 h v2 = some r) : ex (d + 1) 198 (31, [some (.ref (86)), some (.int (a0)), some (.int (v2)), none, none, none], [], h) = some (some (.int (r.1)), r.2) := by
  unfold p198_j31 at hp
  refine e_iload_n f198_31 rfl ?_
  by_cases hc5 : (v2) < (0 : Int32)
  · rw [if_pos hc5] at hp
    refine e_if_ge_f f198_32 hc5 ?_
    refine e_iconst (v := 0) f198_35 (by decide) ?_
    have hp := Option.some.inj hp
    subst hp
    exact e_ireturn f198_36 (by decide)
  · rw [if_neg hc5] at hp
    refine e_if_ge_t f198_32 hc5 ?_
    refine e_iload_n f198_37 rfl ?_
    refine e_iconst (v := 1) f198_38 (by decide) ?_
    refine e_isub f198_39 ?_
    refine e_istore_n (ls2 := [some (.ref (86)), some (.int (a0)), some (.int (v2)), some (.int ((a0) - (1))), none, none]) f198_40 (Nat.le_of_ble_eq_true rfl) rfl ?_
    refine ex_weak (ls := [some (.ref (86)), some (.int (a0)), some (.int (v2)), some (.int ((a0) - (1))), none, none]) (le2_ok ⟨Or.inr rfl, Or.inr rfl, Or.inr rfl, Or.inr rfl, Or.inl rfl, Or.inl rfl, trivial⟩) ?_
    exact p198_L41_ok d F a0 F (h) (w) (v2) ((a0) - (1)) _ hp
set_option maxRecDepth 100000 in
set_option maxHeartbeats 4000000 in
theorem p198_j31_w (F : Nat) (a0 : Int32) (h : HS) (w : WF h) (v2 : Int32) (r : Int32 × HS) (hp : p198_j31 F a0 h v2 = some r) : WF r.2 := by
  unfold p198_j31 at hp
  by_cases hc5 : (v2) < (0 : Int32)
  · rw [if_pos hc5] at hp
    have hp := Option.some.inj hp
    subst hp
    exact (w)
  · rw [if_neg hc5] at hp
    exact p198_L41_w F a0 F (h) (w) (v2) ((a0) - (1)) _ hp
set_option maxRecDepth 100000 in
set_option maxHeartbeats 4000000 in
theorem p198_L4_ok (d : Nat) (F : Nat) (a0 : Int32) : ∀ (n : Nat) (h : HS) (w : WF h) (v2 : Int32) (r : Int32 × HS), p198_L4 F a0 n h v2 = some r → ex (d + 1) 198 (4, [some (.ref (86)), some (.int (a0)), some (.int (v2)), none, none, none], [], h) = some (some (.int (r.1)), r.2) := by
  intro n
  induction n with
  | zero => intro h w v2 r hp; cases hp
  | succ n ih =>
    intro h w v2 r hp
    unfold p198_L4 at hp
    refine e_iload_n f198_4 rfl ?_
    by_cases hc1 : (v2) < (0 : Int32)
    · rw [if_pos hc1] at hp
      refine e_if_lt_t f198_5 hc1 ?_
      refine ex_weak (ls := [some (.ref (86)), some (.int (a0)), some (.int (v2)), none, none, none]) (le2_ok ⟨Or.inr rfl, Or.inr rfl, Or.inr rfl, Or.inl rfl, Or.inl rfl, Or.inl rfl, trivial⟩) ?_
      exact p198_j31_ok d F a0 (h) (w) (v2) _ hp
    · rw [if_neg hc1] at hp
      refine e_if_lt_f f198_5 hc1 ?_
      refine e_aload_n f198_8 rfl ?_
      refine e_getR f198_9 (WF.t w 86 (by decide)) rfl (WF.r (q := 92) w 86 9 (by decide)) ?_
      refine e_iload_n f198_12 rfl ?_
      by_cases hg2 : (v2) < (0 : Int32) ∨ 8 ≤ (v2).toNatClampNeg
      · rw [if_pos hg2] at hp; cases hp
      rw [if_neg hg2] at hp
      refine e_iaload f198_13 (Or.inl (WF.t w 92 (by decide))) (WF.n w 92 (by decide)) hg2 ?_
      refine e_aload_n f198_14 rfl ?_
      refine e_getR f198_15 (WF.t w 86 (by decide)) rfl (WF.r (q := 92) w 86 9 (by decide)) ?_
      refine e_iload_n f198_18 rfl ?_
      refine e_iconst (v := 1) f198_19 (by decide) ?_
      refine e_iadd f198_20 ?_
      by_cases hg3 : ((v2) + (1)) < (0 : Int32) ∨ 8 ≤ ((v2) + (1)).toNatClampNeg
      · rw [if_pos hg3] at hp; cases hp
      rw [if_neg hg3] at hp
      refine e_iaload f198_21 (Or.inl (WF.t w 92 (by decide))) (WF.n w 92 (by decide)) hg3 ?_
      by_cases hc4 : (hI (h) (92) ((v2) + (1)).toNatClampNeg) < ((hI (h) (92) (v2).toNatClampNeg) : Int32)
      · rw [if_pos hc4] at hp
        refine e_icmp_le_f f198_22 hc4 ?_
        refine e_iinc (ls2 := [some (.ref (86)), some (.int (a0)), some (.int ((v2) + (-1))), none, none, none]) f198_25 (by decide) rfl rfl ?_
        refine e_goto f198_28 ?_
        refine ex_weak (ls := [some (.ref (86)), some (.int (a0)), some (.int ((v2) + (-1))), none, none, none]) (le2_ok ⟨Or.inr rfl, Or.inr rfl, Or.inr rfl, Or.inl rfl, Or.inl rfl, Or.inl rfl, trivial⟩) ?_
        exact ih (h) (w) ((v2) + (-1)) _ hp
      · rw [if_neg hc4] at hp
        refine e_icmp_le_t f198_22 hc4 ?_
        refine ex_weak (ls := [some (.ref (86)), some (.int (a0)), some (.int (v2)), none, none, none]) (le2_ok ⟨Or.inr rfl, Or.inr rfl, Or.inr rfl, Or.inl rfl, Or.inl rfl, Or.inl rfl, trivial⟩) ?_
        exact p198_j31_ok d F a0 (h) (w) (v2) _ hp
set_option maxRecDepth 100000 in
set_option maxHeartbeats 4000000 in
theorem p198_L4_w (F : Nat) (a0 : Int32) : ∀ (n : Nat) (h : HS) (w : WF h) (v2 : Int32) (r : Int32 × HS), p198_L4 F a0 n h v2 = some r → WF r.2 := by
  intro n
  induction n with
  | zero => intro h w v2 r hp; cases hp
  | succ n ih =>
    intro h w v2 r hp
    unfold p198_L4 at hp
    by_cases hc1 : (v2) < (0 : Int32)
    · rw [if_pos hc1] at hp
      exact p198_j31_w F a0 (h) (w) (v2) _ hp
    · rw [if_neg hc1] at hp
      by_cases hg2 : (v2) < (0 : Int32) ∨ 8 ≤ (v2).toNatClampNeg
      · rw [if_pos hg2] at hp; cases hp
      rw [if_neg hg2] at hp
      by_cases hg3 : ((v2) + (1)) < (0 : Int32) ∨ 8 ≤ ((v2) + (1)).toNatClampNeg
      · rw [if_pos hg3] at hp; cases hp
      rw [if_neg hg3] at hp
      by_cases hc4 : (hI (h) (92) ((v2) + (1)).toNatClampNeg) < ((hI (h) (92) (v2).toNatClampNeg) : Int32)
      · rw [if_pos hc4] at hp
        exact ih (h) (w) ((v2) + (-1)) _ hp
      · rw [if_neg hc4] at hp
        exact p198_j31_w F a0 (h) (w) (v2) _ hp
set_option maxRecDepth 100000 in
set_option maxHeartbeats 4000000 in
theorem p198_ok (d : Nat) (F : Nat) (h : HS) (w : WF h) (a0 : Int32) (r : Int32 × HS) (hp : p198 F h a0 = some r) : ex (d + 1) 198 (ent 198 [.ref (86), .int (a0)] h) = some (some (.int (r.1)), r.2) := by
  rw [show ent 198 [.ref (86), .int (a0)] h = (0, [some (.ref (86)), some (.int (a0)), none, none, none, none], [], h) from by  rfl]
  refine ex_weak (ls := [some (.ref (86)), some (.int (a0)), none, none, none, none]) (le2_ok ⟨Or.inr rfl, Or.inr rfl, Or.inr rfl, Or.inr rfl, Or.inr rfl, Or.inr rfl, trivial⟩) ?_
  unfold p198 at hp
  refine e_iload_n f198_0 rfl ?_
  refine e_iconst (v := 2) f198_1 (by decide) ?_
  refine e_isub f198_2 ?_
  refine e_istore_n (ls2 := [some (.ref (86)), some (.int (a0)), some (.int ((a0) - (2))), none, none, none]) f198_3 (Nat.le_of_ble_eq_true rfl) rfl ?_
  refine ex_weak (ls := [some (.ref (86)), some (.int (a0)), some (.int ((a0) - (2))), none, none, none]) (le2_ok ⟨Or.inr rfl, Or.inr rfl, Or.inr rfl, Or.inl rfl, Or.inl rfl, Or.inl rfl, trivial⟩) ?_
  exact p198_L4_ok d F a0 F (h) (w) ((a0) - (2)) _ hp
set_option maxRecDepth 100000 in
set_option maxHeartbeats 4000000 in
theorem p198_w (F : Nat) (h : HS) (w : WF h) (a0 : Int32) (r : Int32 × HS) (hp : p198 F h a0 = some r) : WF r.2 := by
  unfold p198 at hp
  exact p198_L4_w F a0 F (h) (w) ((a0) - (2)) _ hp
theorem f200_0 : fetch 200 0 = some (.iload_n 0, 0, 0, 0) := rfl
theorem f200_1 : fetch 200 1 = some (.iconst 1, 0, 0, 0) := rfl
theorem f200_2 : fetch 200 2 = some (.bipush 8, 0, 0, 0) := rfl
theorem f200_4 : fetch 200 4 = some (.invokestatic 240, 187, 3, 1) := rfl
theorem f200_7 : fetch 200 7 = some (.ifCond .eq 25, 32, 0, 0) := rfl
theorem f200_10 : fetch 200 10 = some (.iload_n 1, 0, 0, 0) := rfl
theorem f200_11 : fetch 200 11 = some (.iconst 1, 0, 0, 0) := rfl
theorem f200_12 : fetch 200 12 = some (.bipush 8, 0, 0, 0) := rfl
theorem f200_14 : fetch 200 14 = some (.invokestatic 240, 187, 3, 1) := rfl
theorem f200_17 : fetch 200 17 = some (.ifCond .eq 15, 32, 0, 0) := rfl
theorem f200_20 : fetch 200 20 = some (.iload_n 0, 0, 0, 0) := rfl
theorem f200_21 : fetch 200 21 = some (.iload_n 1, 0, 0, 0) := rfl
theorem f200_22 : fetch 200 22 = some (.imul, 0, 0, 0) := rfl
theorem f200_23 : fetch 200 23 = some (.bipush 8, 0, 0, 0) := rfl
theorem f200_25 : fetch 200 25 = some (.if_icmp .gt 7, 32, 0, 0) := rfl
theorem f200_28 : fetch 200 28 = some (.iconst 1, 0, 0, 0) := rfl
theorem f200_29 : fetch 200 29 = some (.goto 4, 33, 0, 0) := rfl
theorem f200_32 : fetch 200 32 = some (.iconst 0, 0, 0, 0) := rfl
theorem f200_33 : fetch 200 33 = some (.ireturn, 0, 0, 1) := rfl
set_option maxRecDepth 100000 in
set_option maxHeartbeats 4000000 in
theorem p200_ok (d : Nat) (h : HS) (w : WF h) (a0 : Int32) (a1 : Int32) (r : Int32) (hp : p200 h a0 a1 = some r) : ex (d + 1) 200 (ent 200 [.int (a0), .int (a1)] h) = some (some (.int (r)), h) := by
  rw [show ent 200 [.int (a0), .int (a1)] h = (0, [some (.int (a0)), some (.int (a1))], [], h) from by  rfl]
  refine ex_weak (ls := [some (.int (a0)), some (.int (a1))]) (le2_ok ⟨Or.inr rfl, Or.inr rfl, trivial⟩) ?_
  unfold p200 at hp
  refine e_iload_n f200_0 rfl ?_
  refine e_iconst (v := 1) f200_1 (by decide) ?_
  refine e_bipush (v := 8) f200_2 (by decide) ?_
  obtain ⟨r1, hr2, hp⟩ := bind_some hp
  try dsimp only at hp
  refine e_callS (st := []) (as := [.int (a0), .int (1), .int (8)]) f200_4 (by decide) rfl rfl (Nat.le_of_ble_eq_true rfl) (Nat.le_of_ble_eq_true rfl) (p187_ok d (h) w (a0) (1) (8) r1 hr2) ?_
  show ex _ 200 (7, [some (.int (a0)), some (.int (a1))], [.int (r1)], h) = _
  by_cases hc3 : (r1) = (0 : Int32)
  · rw [if_pos hc3] at hp
    refine e_if_eq_t f200_7 hc3 ?_
    refine e_iconst (v := 0) f200_32 (by decide) ?_
    have hp := Option.some.inj hp
    subst hp
    exact e_ireturn f200_33 (by decide)
  · rw [if_neg hc3] at hp
    refine e_if_eq_f f200_7 hc3 ?_
    refine e_iload_n f200_10 rfl ?_
    refine e_iconst (v := 1) f200_11 (by decide) ?_
    refine e_bipush (v := 8) f200_12 (by decide) ?_
    obtain ⟨r4, hr5, hp⟩ := bind_some hp
    try dsimp only at hp
    refine e_callS (st := []) (as := [.int (a1), .int (1), .int (8)]) f200_14 (by decide) rfl rfl (Nat.le_of_ble_eq_true rfl) (Nat.le_of_ble_eq_true rfl) (p187_ok d (h) w (a1) (1) (8) r4 hr5) ?_
    show ex _ 200 (17, [some (.int (a0)), some (.int (a1))], [.int (r4)], h) = _
    by_cases hc6 : (r4) = (0 : Int32)
    · rw [if_pos hc6] at hp
      refine e_if_eq_t f200_17 hc6 ?_
      refine e_iconst (v := 0) f200_32 (by decide) ?_
      have hp := Option.some.inj hp
      subst hp
      exact e_ireturn f200_33 (by decide)
    · rw [if_neg hc6] at hp
      refine e_if_eq_f f200_17 hc6 ?_
      refine e_iload_n f200_20 rfl ?_
      refine e_iload_n f200_21 rfl ?_
      refine e_imul f200_22 ?_
      refine e_bipush (v := 8) f200_23 (by decide) ?_
      by_cases hc7 : (8) < (((a0) * (a1)) : Int32)
      · rw [if_pos hc7] at hp
        refine e_icmp_gt_t f200_25 hc7 ?_
        refine e_iconst (v := 0) f200_32 (by decide) ?_
        have hp := Option.some.inj hp
        subst hp
        exact e_ireturn f200_33 (by decide)
      · rw [if_neg hc7] at hp
        refine e_icmp_gt_f f200_25 hc7 ?_
        refine e_iconst (v := 1) f200_28 (by decide) ?_
        refine e_goto f200_29 ?_
        have hp := Option.some.inj hp
        subst hp
        exact e_ireturn f200_33 (by decide)
theorem f201_0 : fetch 201 0 = some (.iload_n 1, 0, 0, 0) := rfl
theorem f201_1 : fetch 201 1 = some (.iconst 0, 0, 0, 0) := rfl
theorem f201_2 : fetch 201 2 = some (.aload_n 0, 0, 0, 0) := rfl
theorem f201_3 : fetch 201 3 = some (.getfield 247, 12, 2, 0) := rfl
theorem f201_6 : fetch 201 6 = some (.iconst 1, 0, 0, 0) := rfl
theorem f201_7 : fetch 201 7 = some (.isub, 0, 0, 0) := rfl
theorem f201_8 : fetch 201 8 = some (.invokestatic 240, 187, 3, 1) := rfl
theorem f201_11 : fetch 201 11 = some (.ifCond .eq 11, 22, 0, 0) := rfl
theorem f201_14 : fetch 201 14 = some (.iload_n 2, 0, 0, 0) := rfl
theorem f201_15 : fetch 201 15 = some (.iload_n 3, 0, 0, 0) := rfl
theorem f201_16 : fetch 201 16 = some (.invokestatic 268, 200, 2, 1) := rfl
theorem f201_19 : fetch 201 19 = some (.ifCond .ne 5, 24, 0, 0) := rfl
theorem f201_22 : fetch 201 22 = some (.iconst (-1), 0, 0, 0) := rfl
theorem f201_23 : fetch 201 23 = some (.ireturn, 0, 0, 0) := rfl
theorem f201_24 : fetch 201 24 = some (.iconst 0, 0, 0, 0) := rfl
theorem f201_25 : fetch 201 25 = some (.istore 4, 0, 0, 0) := rfl
theorem f201_27 : fetch 201 27 = some (.iconst 0, 0, 0, 0) := rfl
theorem f201_28 : fetch 201 28 = some (.istore 5, 0, 0, 0) := rfl
theorem f201_30 : fetch 201 30 = some (.iload 5, 0, 0, 0) := rfl
theorem f201_32 : fetch 201 32 = some (.aload_n 0, 0, 0, 0) := rfl
theorem f201_33 : fetch 201 33 = some (.getfield 250, 12, 3, 0) := rfl
theorem f201_36 : fetch 201 36 = some (.if_icmp .ge 50, 86, 0, 0) := rfl
theorem f201_39 : fetch 201 39 = some (.aload_n 0, 0, 0, 0) := rfl
theorem f201_40 : fetch 201 40 = some (.getfield 13, 12, 5, 2) := rfl
theorem f201_43 : fetch 201 43 = some (.iload 5, 0, 0, 0) := rfl
theorem f201_45 : fetch 201 45 = some (.iaload, 0, 0, 0) := rfl
theorem f201_46 : fetch 201 46 = some (.iload_n 1, 0, 0, 0) := rfl
theorem f201_47 : fetch 201 47 = some (.if_icmp .ne 33, 80, 0, 0) := rfl
theorem f201_50 : fetch 201 50 = some (.aload_n 0, 0, 0, 0) := rfl
theorem f201_51 : fetch 201 51 = some (.getfield 22, 12, 8, 2) := rfl
theorem f201_54 : fetch 201 54 = some (.iload 5, 0, 0, 0) := rfl
theorem f201_56 : fetch 201 56 = some (.iaload, 0, 0, 0) := rfl
theorem f201_57 : fetch 201 57 = some (.iconst (-1), 0, 0, 0) := rfl
theorem f201_58 : fetch 201 58 = some (.if_icmp .ne 22, 80, 0, 0) := rfl
theorem f201_61 : fetch 201 61 = some (.iload 4, 0, 0, 0) := rfl
theorem f201_63 : fetch 201 63 = some (.bipush 8, 0, 0, 0) := rfl
theorem f201_65 : fetch 201 65 = some (.if_icmp .ge 12, 77, 0, 0) := rfl
theorem f201_68 : fetch 201 68 = some (.aload_n 0, 0, 0, 0) := rfl
theorem f201_69 : fetch 201 69 = some (.getfield 25, 12, 9, 2) := rfl
theorem f201_72 : fetch 201 72 = some (.iload 4, 0, 0, 0) := rfl
theorem f201_74 : fetch 201 74 = some (.iload 5, 0, 0, 0) := rfl
theorem f201_76 : fetch 201 76 = some (.iastore, 0, 0, 0) := rfl
theorem f201_77 : fetch 201 77 = some (.iinc 4 1, 0, 0, 0) := rfl
theorem f201_80 : fetch 201 80 = some (.iinc 5 1, 0, 0, 0) := rfl
theorem f201_83 : fetch 201 83 = some (.goto (-53), 30, 0, 0) := rfl
theorem f201_86 : fetch 201 86 = some (.iload 4, 0, 0, 0) := rfl
theorem f201_88 : fetch 201 88 = some (.iload_n 2, 0, 0, 0) := rfl
theorem f201_89 : fetch 201 89 = some (.iload_n 3, 0, 0, 0) := rfl
theorem f201_90 : fetch 201 90 = some (.imul, 0, 0, 0) := rfl
theorem f201_91 : fetch 201 91 = some (.if_icmp .eq 5, 96, 0, 0) := rfl
theorem f201_94 : fetch 201 94 = some (.iconst (-1), 0, 0, 0) := rfl
theorem f201_95 : fetch 201 95 = some (.ireturn, 0, 0, 0) := rfl
theorem f201_96 : fetch 201 96 = some (.iconst (-1), 0, 0, 0) := rfl
theorem f201_97 : fetch 201 97 = some (.istore 5, 0, 0, 0) := rfl
theorem f201_99 : fetch 201 99 = some (.iconst 1, 0, 0, 0) := rfl
theorem f201_100 : fetch 201 100 = some (.istore 6, 0, 0, 0) := rfl
theorem f201_102 : fetch 201 102 = some (.iload 6, 0, 0, 0) := rfl
theorem f201_104 : fetch 201 104 = some (.ifCond .eq 117, 221, 0, 0) := rfl
theorem f201_107 : fetch 201 107 = some (.aload_n 0, 0, 0, 0) := rfl
theorem f201_108 : fetch 201 108 = some (.iload_n 2, 0, 0, 0) := rfl
theorem f201_109 : fetch 201 109 = some (.iload_n 3, 0, 0, 0) := rfl
theorem f201_110 : fetch 201 110 = some (.invokevirtual 272, 197, 2, 0) := rfl
theorem f201_113 : fetch 201 113 = some (.istore 7, 0, 0, 0) := rfl
theorem f201_115 : fetch 201 115 = some (.iload 7, 0, 0, 0) := rfl
theorem f201_117 : fetch 201 117 = some (.iload 5, 0, 0, 0) := rfl
theorem f201_119 : fetch 201 119 = some (.if_icmp .le 12, 131, 0, 0) := rfl
theorem f201_122 : fetch 201 122 = some (.iload 7, 0, 0, 0) := rfl
theorem f201_124 : fetch 201 124 = some (.istore 5, 0, 0, 0) := rfl
theorem f201_126 : fetch 201 126 = some (.aload_n 0, 0, 0, 0) := rfl
theorem f201_127 : fetch 201 127 = some (.iconst 0, 0, 0, 0) := rfl
theorem f201_128 : fetch 201 128 = some (.putfield 276, 12, 13, 0) := rfl
theorem f201_131 : fetch 201 131 = some (.iload 7, 0, 0, 0) := rfl
theorem f201_133 : fetch 201 133 = some (.iload 5, 0, 0, 0) := rfl
theorem f201_135 : fetch 201 135 = some (.if_icmp .ne 75, 210, 0, 0) := rfl
theorem f201_138 : fetch 201 138 = some (.iconst 0, 0, 0, 0) := rfl
theorem f201_139 : fetch 201 139 = some (.istore 8, 0, 0, 0) := rfl
theorem f201_141 : fetch 201 141 = some (.iload 8, 0, 0, 0) := rfl
theorem f201_143 : fetch 201 143 = some (.iload 4, 0, 0, 0) := rfl
theorem f201_145 : fetch 201 145 = some (.if_icmp .ge 55, 200, 0, 0) := rfl
theorem f201_148 : fetch 201 148 = some (.aload_n 0, 0, 0, 0) := rfl
theorem f201_149 : fetch 201 149 = some (.getfield 276, 12, 13, 0) := rfl
theorem f201_152 : fetch 201 152 = some (.iconst 2, 0, 0, 0) := rfl
theorem f201_153 : fetch 201 153 = some (.if_icmp .ge 47, 200, 0, 0) := rfl
theorem f201_156 : fetch 201 156 = some (.aload_n 0, 0, 0, 0) := rfl
theorem f201_157 : fetch 201 157 = some (.getfield 276, 12, 13, 0) := rfl
theorem f201_160 : fetch 201 160 = some (.ifCond .ne 20, 180, 0, 0) := rfl
theorem f201_163 : fetch 201 163 = some (.aload_n 0, 0, 0, 0) := rfl
theorem f201_164 : fetch 201 164 = some (.getfield 28, 12, 10, 2) := rfl
theorem f201_167 : fetch 201 167 = some (.iload 8, 0, 0, 0) := rfl
theorem f201_169 : fetch 201 169 = some (.aload_n 0, 0, 0, 0) := rfl
theorem f201_170 : fetch 201 170 = some (.getfield 25, 12, 9, 2) := rfl
theorem f201_173 : fetch 201 173 = some (.iload 8, 0, 0, 0) := rfl
theorem f201_175 : fetch 201 175 = some (.iaload, 0, 0, 0) := rfl
theorem f201_176 : fetch 201 176 = some (.iastore, 0, 0, 0) := rfl
theorem f201_177 : fetch 201 177 = some (.goto 17, 194, 0, 0) := rfl
theorem f201_180 : fetch 201 180 = some (.aload_n 0, 0, 0, 0) := rfl
theorem f201_181 : fetch 201 181 = some (.getfield 31, 12, 11, 2) := rfl
theorem f201_184 : fetch 201 184 = some (.iload 8, 0, 0, 0) := rfl
theorem f201_186 : fetch 201 186 = some (.aload_n 0, 0, 0, 0) := rfl
theorem f201_187 : fetch 201 187 = some (.getfield 25, 12, 9, 2) := rfl
theorem f201_190 : fetch 201 190 = some (.iload 8, 0, 0, 0) := rfl
theorem f201_192 : fetch 201 192 = some (.iaload, 0, 0, 0) := rfl
theorem f201_193 : fetch 201 193 = some (.iastore, 0, 0, 0) := rfl
theorem f201_194 : fetch 201 194 = some (.iinc 8 1, 0, 0, 0) := rfl
theorem f201_197 : fetch 201 197 = some (.goto (-56), 141, 0, 0) := rfl
theorem f201_200 : fetch 201 200 = some (.aload_n 0, 0, 0, 0) := rfl
theorem f201_201 : fetch 201 201 = some (.dup, 0, 0, 0) := rfl
theorem f201_202 : fetch 201 202 = some (.getfield 276, 12, 13, 0) := rfl
theorem f201_205 : fetch 201 205 = some (.iconst 1, 0, 0, 0) := rfl
theorem f201_206 : fetch 201 206 = some (.iadd, 0, 0, 0) := rfl
theorem f201_207 : fetch 201 207 = some (.putfield 276, 12, 13, 0) := rfl
theorem f201_210 : fetch 201 210 = some (.aload_n 0, 0, 0, 0) := rfl
theorem f201_211 : fetch 201 211 = some (.iload 4, 0, 0, 0) := rfl
theorem f201_213 : fetch 201 213 = some (.invokevirtual 279, 198, 1, 0) := rfl
theorem f201_216 : fetch 201 216 = some (.istore 6, 0, 0, 0) := rfl
theorem f201_218 : fetch 201 218 = some (.goto (-116), 102, 0, 0) := rfl
theorem f201_221 : fetch 201 221 = some (.aload_n 0, 0, 0, 0) := rfl
theorem f201_222 : fetch 201 222 = some (.iload 4, 0, 0, 0) := rfl
theorem f201_224 : fetch 201 224 = some (.putfield 282, 12, 12, 0) := rfl
theorem f201_227 : fetch 201 227 = some (.iload 5, 0, 0, 0) := rfl
theorem f201_229 : fetch 201 229 = some (.ireturn, 0, 0, 0) := rfl
set_option maxRecDepth 100000 in
set_option maxHeartbeats 4000000 in
theorem p201_j194_ok (d : Nat) (F : Nat) (a0 : Int32) (a1 : Int32) (a2 : Int32) (K102 : HS → Int32 → Int32 → Int32 → Option (Int32 × HS)) (K141 : HS → Int32 → Int32 → Int32 → Option (Int32 × HS)) (hK102 : ∀ (h : HS) (w : WF h) (u4 : Int32) (u5 : Int32) (u6 : Int32) (r : Int32 × HS), K102 h u4 u5 u6 = some r → ex (d + 2) 201 (102, [some (.ref (86)), none, some (.int (a1)), some (.int (a2)), some (.int (u4)), some (.int (u5)), some (.int (u6)), none, none], [], h) = some (some (.int (r.1)), r.2)) (hK141 : ∀ (h : HS) (w : WF h) (u4 : Int32) (u5 : Int32) (u8 : Int32) (r : Int32 × HS), K141 h u4 u5 u8 = some r → ex (d + 2) 201 (141, [some (.ref (86)), none, some (.int (a1)), some (.int (a2)), some (.int (u4)), some (.int (u5)), none, none, some (.int (u8))], [], h) = some (some (.int (r.1)), r.2)) (h : HS) (w : WF h) (v4 : Int32) (v5 : Int32) (v8 : Int32) (r : Int32 × HS) (hp : p201_j194 F a0 a1 a2 K102 K141 h v4 v5 v8 = some r) : ex (d + 2) 201 (194, [some (.ref (86)), none, some (.int (a1)), some (.int (a2)), some (.int (v4)), some (.int (v5)), none, none, some (.int (v8))], [], h) = some (some (.int (r.1)), r.2) := by
  unfold p201_j194 at hp
  refine e_iinc (ls2 := [some (.ref (86)), none, some (.int (a1)), some (.int (a2)), some (.int (v4)), some (.int (v5)), none, none, some (.int ((v8) + 1))]) f201_194 (by decide) rfl rfl ?_
  refine e_goto f201_197 ?_
  refine ex_weak (ls := [some (.ref (86)), none, some (.int (a1)), some (.int (a2)), some (.int (v4)), some (.int (v5)), none, none, some (.int ((v8) + 1))]) (le2_ok ⟨Or.inr rfl, Or.inl rfl, Or.inr rfl, Or.inr rfl, Or.inr rfl, Or.inr rfl, Or.inl rfl, Or.inl rfl, Or.inr rfl, trivial⟩) ?_
  exact hK141 (h) (w) (v4) (v5) ((v8) + 1) _ hp
set_option maxRecDepth 100000 in
set_option maxHeartbeats 4000000 in
theorem p201_j194_w (F : Nat) (a0 : Int32) (a1 : Int32) (a2 : Int32) (K102 : HS → Int32 → Int32 → Int32 → Option (Int32 × HS)) (K141 : HS → Int32 → Int32 → Int32 → Option (Int32 × HS)) (hK102 : ∀ (h : HS) (w : WF h) (u4 : Int32) (u5 : Int32) (u6 : Int32) (r : Int32 × HS), K102 h u4 u5 u6 = some r → WF r.2) (hK141 : ∀ (h : HS) (w : WF h) (u4 : Int32) (u5 : Int32) (u8 : Int32) (r : Int32 × HS), K141 h u4 u5 u8 = some r → WF r.2) (h : HS) (w : WF h) (v4 : Int32) (v5 : Int32) (v8 : Int32) (r : Int32 × HS) (hp : p201_j194 F a0 a1 a2 K102 K141 h v4 v5 v8 = some r) : WF r.2 := by
  unfold p201_j194 at hp
  exact hK141 (h) (w) (v4) (v5) ((v8) + 1) _ hp
set_option maxRecDepth 100000 in
set_option maxHeartbeats 4000000 in
theorem p201_j210_ok (d : Nat) (F : Nat) (a0 : Int32) (a1 : Int32) (a2 : Int32) (K102 : HS → Int32 → Int32 → Int32 → Option (Int32 × HS)) (hK102 : ∀ (h : HS) (w : WF h) (u4 : Int32) (u5 : Int32) (u6 : Int32) (r : Int32 × HS), K102 h u4 u5 u6 = some r → ex (d + 2) 201 (102, [some (.ref (86)), none, some (.int (a1)), some (.int (a2)), some (.int (u4)), some (.int (u5)), some (.int (u6)), none, none], [], h) = some (some (.int (r.1)), r.2)) (h : HS) (w : WF h) (v4 : Int32) (v5 : Int32) (r : Int32 × HS) (hp : p201_j210 F a0 a1 a2 K102 h v4 v5 = some r) : ex (d + 2) 201 (210, [some (.ref (86)), none, some (.int (a1)), some (.int (a2)), some (.int (v4)), some (.int (v5)), none, none, none], [], h) = some (some (.int (r.1)), r.2) := by
  unfold p201_j210 at hp
  refine e_aload_n f201_210 rfl ?_
  refine e_iload f201_211 rfl ?_
  obtain ⟨r27, hr28, hp⟩ := bind_some hp
  try dsimp only at hp
  refine e_callV (st := []) (o := 86) (as := [.int (v4)]) f201_213 (by decide) rfl rfl (Nat.le_of_ble_eq_true rfl) (WF.t w 86 (by decide)) (Nat.le_of_ble_eq_true rfl) (p198_ok d F (h) w (v4) r27 hr28) ?_
  show ex _ 201 (216, [some (.ref (86)), none, some (.int (a1)), some (.int (a2)), some (.int (v4)), some (.int (v5)), none, none, none], [.int (r27.1)], r27.2) = _
  refine e_istore (ls2 := [some (.ref (86)), none, some (.int (a1)), some (.int (a2)), some (.int (v4)), some (.int (v5)), some (.int (r27.1)), none, none]) f201_216 (Nat.le_of_ble_eq_true rfl) rfl ?_
  refine e_goto f201_218 ?_
  refine ex_weak (ls := [some (.ref (86)), none, some (.int (a1)), some (.int (a2)), some (.int (v4)), some (.int (v5)), some (.int (r27.1)), none, none]) (le2_ok ⟨Or.inr rfl, Or.inl rfl, Or.inr rfl, Or.inr rfl, Or.inr rfl, Or.inr rfl, Or.inr rfl, Or.inl rfl, Or.inl rfl, trivial⟩) ?_
  exact hK102 (r27.2) ((p198_w F (h) w (v4)  r27 hr28)) (v4) (v5) (r27.1) _ hp
set_option maxRecDepth 100000 in
set_option maxHeartbeats 4000000 in
theorem p201_j210_w (F : Nat) (a0 : Int32) (a1 : Int32) (a2 : Int32) (K102 : HS → Int32 → Int32 → Int32 → Option (Int32 × HS)) (hK102 : ∀ (h : HS) (w : WF h) (u4 : Int32) (u5 : Int32) (u6 : Int32) (r : Int32 × HS), K102 h u4 u5 u6 = some r → WF r.2) (h : HS) (w : WF h) (v4 : Int32) (v5 : Int32) (r : Int32 × HS) (hp : p201_j210 F a0 a1 a2 K102 h v4 v5 = some r) : WF r.2 := by
  unfold p201_j210 at hp
  obtain ⟨r27, hr28, hp⟩ := bind_some hp
  try dsimp only at hp
  exact hK102 (r27.2) ((p198_w F (h) w (v4)  r27 hr28)) (v4) (v5) (r27.1) _ hp
set_option maxRecDepth 100000 in
set_option maxHeartbeats 4000000 in
theorem p201_j80_ok (d : Nat) (F : Nat) (a0 : Int32) (a1 : Int32) (a2 : Int32) (K30 : HS → Int32 → Int32 → Option (Int32 × HS)) (hK30 : ∀ (h : HS) (w : WF h) (u4 : Int32) (u5 : Int32) (r : Int32 × HS), K30 h u4 u5 = some r → ex (d + 2) 201 (30, [some (.ref (86)), some (.int (a0)), some (.int (a1)), some (.int (a2)), some (.int (u4)), some (.int (u5)), none, none, none], [], h) = some (some (.int (r.1)), r.2)) (h : HS) (w : WF h) (v4 : Int32) (v5 : Int32) (r : Int32 × HS) (hp : p201_j80 F a0 a1 a2 K30 h v4 v5 = some r) : ex (d + 2) 201 (80, [some (.ref (86)), some (.int (a0)), some (.int (a1)), some (.int (a2)), some (.int (v4)), some (.int (v5)), none, none, none], [], h) = some (some (.int (r.1)), r.2) := by
  unfold p201_j80 at hp
  refine e_iinc (ls2 := [some (.ref (86)), some (.int (a0)), some (.int (a1)), some (.int (a2)), some (.int (v4)), some (.int ((v5) + 1)), none, none, none]) f201_80 (by decide) rfl rfl ?_
  refine e_goto f201_83 ?_
  refine ex_weak (ls := [some (.ref (86)), some (.int (a0)), some (.int (a1)), some (.int (a2)), some (.int (v4)), some (.int ((v5) + 1)), none, none, none]) (le2_ok ⟨Or.inr rfl, Or.inr rfl, Or.inr rfl, Or.inr rfl, Or.inr rfl, Or.inr rfl, Or.inl rfl, Or.inl rfl, Or.inl rfl, trivial⟩) ?_
  exact hK30 (h) (w) (v4) ((v5) + 1) _ hp
set_option maxRecDepth 100000 in
set_option maxHeartbeats 4000000 in
theorem p201_j80_w (F : Nat) (a0 : Int32) (a1 : Int32) (a2 : Int32) (K30 : HS → Int32 → Int32 → Option (Int32 × HS)) (hK30 : ∀ (h : HS) (w : WF h) (u4 : Int32) (u5 : Int32) (r : Int32 × HS), K30 h u4 u5 = some r → WF r.2) (h : HS) (w : WF h) (v4 : Int32) (v5 : Int32) (r : Int32 × HS) (hp : p201_j80 F a0 a1 a2 K30 h v4 v5 = some r) : WF r.2 := by
  unfold p201_j80 at hp
  exact hK30 (h) (w) (v4) ((v5) + 1) _ hp
set_option maxRecDepth 100000 in
set_option maxHeartbeats 4000000 in
theorem p201_j200_ok (d : Nat) (F : Nat) (a0 : Int32) (a1 : Int32) (a2 : Int32) (K102 : HS → Int32 → Int32 → Int32 → Option (Int32 × HS)) (hK102 : ∀ (h : HS) (w : WF h) (u4 : Int32) (u5 : Int32) (u6 : Int32) (r : Int32 × HS), K102 h u4 u5 u6 = some r → ex (d + 2) 201 (102, [some (.ref (86)), none, some (.int (a1)), some (.int (a2)), some (.int (u4)), some (.int (u5)), some (.int (u6)), none, none], [], h) = some (some (.int (r.1)), r.2)) (h : HS) (w : WF h) (v4 : Int32) (v5 : Int32) (r : Int32 × HS) (hp : p201_j200 F a0 a1 a2 K102 h v4 v5 = some r) : ex (d + 2) 201 (200, [some (.ref (86)), none, some (.int (a1)), some (.int (a2)), some (.int (v4)), some (.int (v5)), none, none, none], [], h) = some (some (.int (r.1)), r.2) := by
  unfold p201_j200 at hp
  refine e_aload_n f201_200 rfl ?_
  refine e_dup f201_201 rfl ?_
  refine e_getI f201_202 (WF.t w 86 (by decide)) (by decide) ?_
  refine e_iconst (v := 1) f201_205 (by decide) ?_
  refine e_iadd f201_206 ?_
  refine e_putI f201_207 (WF.t w 86 (by decide)) rfl ?_
  refine ex_weak (ls := [some (.ref (86)), none, some (.int (a1)), some (.int (a2)), some (.int (v4)), some (.int (v5)), none, none, none]) (le2_ok ⟨Or.inr rfl, Or.inl rfl, Or.inr rfl, Or.inr rfl, Or.inr rfl, Or.inr rfl, Or.inl rfl, Or.inl rfl, Or.inl rfl, trivial⟩) ?_
  exact p201_j210_ok d F a0 a1 a2 (K102) (hK102) (hsI (h) (86) 13 ((hI (h) (86) 13) + (1))) (w) (v4) (v5) _ hp
set_option maxRecDepth 100000 in
set_option maxHeartbeats 4000000 in
theorem p201_j200_w (F : Nat) (a0 : Int32) (a1 : Int32) (a2 : Int32) (K102 : HS → Int32 → Int32 → Int32 → Option (Int32 × HS)) (hK102 : ∀ (h : HS) (w : WF h) (u4 : Int32) (u5 : Int32) (u6 : Int32) (r : Int32 × HS), K102 h u4 u5 u6 = some r → WF r.2) (h : HS) (w : WF h) (v4 : Int32) (v5 : Int32) (r : Int32 × HS) (hp : p201_j200 F a0 a1 a2 K102 h v4 v5 = some r) : WF r.2 := by
  unfold p201_j200 at hp
  exact p201_j210_w F a0 a1 a2 (K102) (hK102) (hsI (h) (86) 13 ((hI (h) (86) 13) + (1))) (w) (v4) (v5) _ hp
set_option maxRecDepth 100000 in
set_option maxHeartbeats 4000000 in
theorem p201_j77_ok (d : Nat) (F : Nat) (a0 : Int32) (a1 : Int32) (a2 : Int32) (K30 : HS → Int32 → Int32 → Option (Int32 × HS)) (hK30 : ∀ (h : HS) (w : WF h) (u4 : Int32) (u5 : Int32) (r : Int32 × HS), K30 h u4 u5 = some r → ex (d + 2) 201 (30, [some (.ref (86)), some (.int (a0)), some (.int (a1)), some (.int (a2)), some (.int (u4)), some (.int (u5)), none, none, none], [], h) = some (some (.int (r.1)), r.2)) (h : HS) (w : WF h) (v4 : Int32) (v5 : Int32) (r : Int32 × HS) (hp : p201_j77 F a0 a1 a2 K30 h v4 v5 = some r) : ex (d + 2) 201 (77, [some (.ref (86)), some (.int (a0)), some (.int (a1)), some (.int (a2)), some (.int (v4)), some (.int (v5)), none, none, none], [], h) = some (some (.int (r.1)), r.2) := by
  unfold p201_j77 at hp
  refine e_iinc (ls2 := [some (.ref (86)), some (.int (a0)), some (.int (a1)), some (.int (a2)), some (.int ((v4) + 1)), some (.int (v5)), none, none, none]) f201_77 (by decide) rfl rfl ?_
  refine ex_weak (ls := [some (.ref (86)), some (.int (a0)), some (.int (a1)), some (.int (a2)), some (.int ((v4) + 1)), some (.int (v5)), none, none, none]) (le2_ok ⟨Or.inr rfl, Or.inr rfl, Or.inr rfl, Or.inr rfl, Or.inr rfl, Or.inr rfl, Or.inl rfl, Or.inl rfl, Or.inl rfl, trivial⟩) ?_
  exact p201_j80_ok d F a0 a1 a2 (K30) (hK30) (h) (w) ((v4) + 1) (v5) _ hp
set_option maxRecDepth 100000 in
set_option maxHeartbeats 4000000 in
theorem p201_j77_w (F : Nat) (a0 : Int32) (a1 : Int32) (a2 : Int32) (K30 : HS → Int32 → Int32 → Option (Int32 × HS)) (hK30 : ∀ (h : HS) (w : WF h) (u4 : Int32) (u5 : Int32) (r : Int32 × HS), K30 h u4 u5 = some r → WF r.2) (h : HS) (w : WF h) (v4 : Int32) (v5 : Int32) (r : Int32 × HS) (hp : p201_j77 F a0 a1 a2 K30 h v4 v5 = some r) : WF r.2 := by
  unfold p201_j77 at hp
  exact p201_j80_w F a0 a1 a2 (K30) (hK30) (h) (w) ((v4) + 1) (v5) _ hp
set_option maxRecDepth 100000 in
set_option maxHeartbeats 4000000 in
theorem p201_L141_ok (d : Nat) (F : Nat) (a0 : Int32) (a1 : Int32) (a2 : Int32) (K102 : HS → Int32 → Int32 → Int32 → Option (Int32 × HS)) (hK102 : ∀ (h : HS) (w : WF h) (u4 : Int32) (u5 : Int32) (u6 : Int32) (r : Int32 × HS), K102 h u4 u5 u6 = some r → ex (d + 2) 201 (102, [some (.ref (86)), none, some (.int (a1)), some (.int (a2)), some (.int (u4)), some (.int (u5)), some (.int (u6)), none, none], [], h) = some (some (.int (r.1)), r.2)) : ∀ (n : Nat) (h : HS) (w : WF h) (v4 : Int32) (v5 : Int32) (v8 : Int32) (r : Int32 × HS), p201_L141 F a0 a1 a2 K102 n h v4 v5 v8 = some r → ex (d + 2) 201 (141, [some (.ref (86)), none, some (.int (a1)), some (.int (a2)), some (.int (v4)), some (.int (v5)), none, none, some (.int (v8))], [], h) = some (some (.int (r.1)), r.2) := by
  intro n
  induction n with
  | zero => intro h w v4 v5 v8 r hp; cases hp
  | succ n ih =>
    intro h w v4 v5 v8 r hp
    unfold p201_L141 at hp
    refine e_iload f201_141 rfl ?_
    refine e_iload f201_143 rfl ?_
    by_cases hc20 : (v8) < ((v4) : Int32)
    · rw [if_pos hc20] at hp
      refine e_icmp_ge_f f201_145 hc20 ?_
      refine e_aload_n f201_148 rfl ?_
      refine e_getI f201_149 (WF.t w 86 (by decide)) (by decide) ?_
      refine e_iconst (v := 2) f201_152 (by decide) ?_
      by_cases hc21 : (hI (h) (86) 13) < ((2) : Int32)
      · rw [if_pos hc21] at hp
        refine e_icmp_ge_f f201_153 hc21 ?_
        refine e_aload_n f201_156 rfl ?_
        refine e_getI f201_157 (WF.t w 86 (by decide)) (by decide) ?_
        by_cases hc22 : (hI (h) (86) 13) = (0 : Int32)
        · rw [if_pos hc22] at hp
          refine e_if_ne_f f201_160 hc22 ?_
          refine e_aload_n f201_163 rfl ?_
          refine e_getR f201_164 (WF.t w 86 (by decide)) rfl (WF.r (q := 93) w 86 10 (by decide)) ?_
          refine e_iload f201_167 rfl ?_
          refine e_aload_n f201_169 rfl ?_
          refine e_getR f201_170 (WF.t w 86 (by decide)) rfl (WF.r (q := 92) w 86 9 (by decide)) ?_
          refine e_iload f201_173 rfl ?_
          by_cases hg23 : (v8) < (0 : Int32) ∨ 8 ≤ (v8).toNatClampNeg
          · rw [if_pos hg23] at hp; cases hp
          rw [if_neg hg23] at hp
          refine e_iaload f201_175 (Or.inl (WF.t w 92 (by decide))) (WF.n w 92 (by decide)) hg23 ?_
          by_cases hg24 : (v8) < (0 : Int32) ∨ 8 ≤ (v8).toNatClampNeg
          · rw [if_pos hg24] at hp; cases hp
          rw [if_neg hg24] at hp
          refine e_iastore f201_176 (WF.t w 93 (by decide)) (WF.n w 93 (by decide)) hg24 ?_
          refine e_goto f201_177 ?_
          refine ex_weak (ls := [some (.ref (86)), none, some (.int (a1)), some (.int (a2)), some (.int (v4)), some (.int (v5)), none, none, some (.int (v8))]) (le2_ok ⟨Or.inr rfl, Or.inl rfl, Or.inr rfl, Or.inr rfl, Or.inr rfl, Or.inr rfl, Or.inl rfl, Or.inl rfl, Or.inr rfl, trivial⟩) ?_
          exact p201_j194_ok d F a0 a1 a2 (K102) ((p201_L141 F a0 a1 a2 K102 n)) (hK102) (ih) (hsI (h) (93) (v8).toNatClampNeg (hI (h) (92) (v8).toNatClampNeg)) (w) (v4) (v5) (v8) _ hp
        · rw [if_neg hc22] at hp
          refine e_if_ne_t f201_160 hc22 ?_
          refine e_aload_n f201_180 rfl ?_
          refine e_getR f201_181 (WF.t w 86 (by decide)) rfl (WF.r (q := 94) w 86 11 (by decide)) ?_
          refine e_iload f201_184 rfl ?_
          refine e_aload_n f201_186 rfl ?_
          refine e_getR f201_187 (WF.t w 86 (by decide)) rfl (WF.r (q := 92) w 86 9 (by decide)) ?_
          refine e_iload f201_190 rfl ?_
          by_cases hg25 : (v8) < (0 : Int32) ∨ 8 ≤ (v8).toNatClampNeg
          · rw [if_pos hg25] at hp; cases hp
          rw [if_neg hg25] at hp
          refine e_iaload f201_192 (Or.inl (WF.t w 92 (by decide))) (WF.n w 92 (by decide)) hg25 ?_
          by_cases hg26 : (v8) < (0 : Int32) ∨ 8 ≤ (v8).toNatClampNeg
          · rw [if_pos hg26] at hp; cases hp
          rw [if_neg hg26] at hp
          refine e_iastore f201_193 (WF.t w 94 (by decide)) (WF.n w 94 (by decide)) hg26 ?_
          refine ex_weak (ls := [some (.ref (86)), none, some (.int (a1)), some (.int (a2)), some (.int (v4)), some (.int (v5)), none, none, some (.int (v8))]) (le2_ok ⟨Or.inr rfl, Or.inl rfl, Or.inr rfl, Or.inr rfl, Or.inr rfl, Or.inr rfl, Or.inl rfl, Or.inl rfl, Or.inr rfl, trivial⟩) ?_
          exact p201_j194_ok d F a0 a1 a2 (K102) ((p201_L141 F a0 a1 a2 K102 n)) (hK102) (ih) (hsI (h) (94) (v8).toNatClampNeg (hI (h) (92) (v8).toNatClampNeg)) (w) (v4) (v5) (v8) _ hp
      · rw [if_neg hc21] at hp
        refine e_icmp_ge_t f201_153 hc21 ?_
        refine ex_weak (ls := [some (.ref (86)), none, some (.int (a1)), some (.int (a2)), some (.int (v4)), some (.int (v5)), none, none, none]) (le2_ok ⟨Or.inr rfl, Or.inl rfl, Or.inr rfl, Or.inr rfl, Or.inr rfl, Or.inr rfl, Or.inl rfl, Or.inl rfl, Or.inl rfl, trivial⟩) ?_
        exact p201_j200_ok d F a0 a1 a2 (K102) (hK102) (h) (w) (v4) (v5) _ hp
    · rw [if_neg hc20] at hp
      refine e_icmp_ge_t f201_145 hc20 ?_
      refine ex_weak (ls := [some (.ref (86)), none, some (.int (a1)), some (.int (a2)), some (.int (v4)), some (.int (v5)), none, none, none]) (le2_ok ⟨Or.inr rfl, Or.inl rfl, Or.inr rfl, Or.inr rfl, Or.inr rfl, Or.inr rfl, Or.inl rfl, Or.inl rfl, Or.inl rfl, trivial⟩) ?_
      exact p201_j200_ok d F a0 a1 a2 (K102) (hK102) (h) (w) (v4) (v5) _ hp
set_option maxRecDepth 100000 in
set_option maxHeartbeats 4000000 in
theorem p201_L141_w (F : Nat) (a0 : Int32) (a1 : Int32) (a2 : Int32) (K102 : HS → Int32 → Int32 → Int32 → Option (Int32 × HS)) (hK102 : ∀ (h : HS) (w : WF h) (u4 : Int32) (u5 : Int32) (u6 : Int32) (r : Int32 × HS), K102 h u4 u5 u6 = some r → WF r.2) : ∀ (n : Nat) (h : HS) (w : WF h) (v4 : Int32) (v5 : Int32) (v8 : Int32) (r : Int32 × HS), p201_L141 F a0 a1 a2 K102 n h v4 v5 v8 = some r → WF r.2 := by
  intro n
  induction n with
  | zero => intro h w v4 v5 v8 r hp; cases hp
  | succ n ih =>
    intro h w v4 v5 v8 r hp
    unfold p201_L141 at hp
    by_cases hc20 : (v8) < ((v4) : Int32)
    · rw [if_pos hc20] at hp
      by_cases hc21 : (hI (h) (86) 13) < ((2) : Int32)
      · rw [if_pos hc21] at hp
        by_cases hc22 : (hI (h) (86) 13) = (0 : Int32)
        · rw [if_pos hc22] at hp
          by_cases hg23 : (v8) < (0 : Int32) ∨ 8 ≤ (v8).toNatClampNeg
          · rw [if_pos hg23] at hp; cases hp
          rw [if_neg hg23] at hp
          by_cases hg24 : (v8) < (0 : Int32) ∨ 8 ≤ (v8).toNatClampNeg
          · rw [if_pos hg24] at hp; cases hp
          rw [if_neg hg24] at hp
          exact p201_j194_w F a0 a1 a2 (K102) ((p201_L141 F a0 a1 a2 K102 n)) (hK102) (ih) (hsI (h) (93) (v8).toNatClampNeg (hI (h) (92) (v8).toNatClampNeg)) (w) (v4) (v5) (v8) _ hp
        · rw [if_neg hc22] at hp
          by_cases hg25 : (v8) < (0 : Int32) ∨ 8 ≤ (v8).toNatClampNeg
          · rw [if_pos hg25] at hp; cases hp
          rw [if_neg hg25] at hp
          by_cases hg26 : (v8) < (0 : Int32) ∨ 8 ≤ (v8).toNatClampNeg
          · rw [if_pos hg26] at hp; cases hp
          rw [if_neg hg26] at hp
          exact p201_j194_w F a0 a1 a2 (K102) ((p201_L141 F a0 a1 a2 K102 n)) (hK102) (ih) (hsI (h) (94) (v8).toNatClampNeg (hI (h) (92) (v8).toNatClampNeg)) (w) (v4) (v5) (v8) _ hp
      · rw [if_neg hc21] at hp
        exact p201_j200_w F a0 a1 a2 (K102) (hK102) (h) (w) (v4) (v5) _ hp
    · rw [if_neg hc20] at hp
      exact p201_j200_w F a0 a1 a2 (K102) (hK102) (h) (w) (v4) (v5) _ hp
set_option maxRecDepth 100000 in
set_option maxHeartbeats 4000000 in
theorem p201_j131_ok (d : Nat) (F : Nat) (a0 : Int32) (a1 : Int32) (a2 : Int32) (K102 : HS → Int32 → Int32 → Int32 → Option (Int32 × HS)) (hK102 : ∀ (h : HS) (w : WF h) (u4 : Int32) (u5 : Int32) (u6 : Int32) (r : Int32 × HS), K102 h u4 u5 u6 = some r → ex (d + 2) 201 (102, [some (.ref (86)), none, some (.int (a1)), some (.int (a2)), some (.int (u4)), some (.int (u5)), some (.int (u6)), none, none], [], h) = some (some (.int (r.1)), r.2)) (h : HS) (w : WF h) (v4 : Int32) (v5 : Int32) (v7 : Int32) (r : Int32 × HS) (hp : p201_j131 F a0 a1 a2 K102 h v4 v5 v7 = some r) : ex (d + 2) 201 (131, [some (.ref (86)), none, some (.int (a1)), some (.int (a2)), some (.int (v4)), some (.int (v5)), none, some (.int (v7)), none], [], h) = some (some (.int (r.1)), r.2) := by
  unfold p201_j131 at hp
  refine e_iload f201_131 rfl ?_
  refine e_iload f201_133 rfl ?_
  by_cases hc19 : (v7) = ((v5) : Int32)
  · rw [if_pos hc19] at hp
    refine e_icmp_ne_f f201_135 hc19 ?_
    refine e_iconst (v := 0) f201_138 (by decide) ?_
    refine e_istore (ls2 := [some (.ref (86)), none, some (.int (a1)), some (.int (a2)), some (.int (v4)), some (.int (v5)), none, some (.int (v7)), some (.int (0))]) f201_139 (Nat.le_of_ble_eq_true rfl) rfl ?_
    refine ex_weak (ls := [some (.ref (86)), none, some (.int (a1)), some (.int (a2)), some (.int (v4)), some (.int (v5)), none, none, some (.int (0))]) (le2_ok ⟨Or.inr rfl, Or.inl rfl, Or.inr rfl, Or.inr rfl, Or.inr rfl, Or.inr rfl, Or.inl rfl, Or.inl rfl, Or.inr rfl, trivial⟩) ?_
    exact p201_L141_ok d F a0 a1 a2 (K102) (hK102) F (h) (w) (v4) (v5) (0) _ hp
  · rw [if_neg hc19] at hp
    refine e_icmp_ne_t f201_135 hc19 ?_
    refine ex_weak (ls := [some (.ref (86)), none, some (.int (a1)), some (.int (a2)), some (.int (v4)), some (.int (v5)), none, none, none]) (le2_ok ⟨Or.inr rfl, Or.inl rfl, Or.inr rfl, Or.inr rfl, Or.inr rfl, Or.inr rfl, Or.inl rfl, Or.inl rfl, Or.inl rfl, trivial⟩) ?_
    exact p201_j210_ok d F a0 a1 a2 (K102) (hK102) (h) (w) (v4) (v5) _ hp
set_option maxRecDepth 100000 in
set_option maxHeartbeats 4000000 in
theorem p201_j131_w (F : Nat) (a0 : Int32) (a1 : Int32) (a2 : Int32) (K102 : HS → Int32 → Int32 → Int32 → Option (Int32 × HS)) (hK102 : ∀ (h : HS) (w : WF h) (u4 : Int32) (u5 : Int32) (u6 : Int32) (r : Int32 × HS), K102 h u4 u5 u6 = some r → WF r.2) (h : HS) (w : WF h) (v4 : Int32) (v5 : Int32) (v7 : Int32) (r : Int32 × HS) (hp : p201_j131 F a0 a1 a2 K102 h v4 v5 v7 = some r) : WF r.2 := by
  unfold p201_j131 at hp
  by_cases hc19 : (v7) = ((v5) : Int32)
  · rw [if_pos hc19] at hp
    exact p201_L141_w F a0 a1 a2 (K102) (hK102) F (h) (w) (v4) (v5) (0) _ hp
  · rw [if_neg hc19] at hp
    exact p201_j210_w F a0 a1 a2 (K102) (hK102) (h) (w) (v4) (v5) _ hp
set_option maxRecDepth 100000 in
set_option maxHeartbeats 4000000 in
theorem p201_L102_ok (d : Nat) (F : Nat) (a0 : Int32) (a1 : Int32) (a2 : Int32) : ∀ (n : Nat) (h : HS) (w : WF h) (v4 : Int32) (v5 : Int32) (v6 : Int32) (r : Int32 × HS), p201_L102 F a0 a1 a2 n h v4 v5 v6 = some r → ex (d + 2) 201 (102, [some (.ref (86)), none, some (.int (a1)), some (.int (a2)), some (.int (v4)), some (.int (v5)), some (.int (v6)), none, none], [], h) = some (some (.int (r.1)), r.2) := by
  intro n
  induction n with
  | zero => intro h w v4 v5 v6 r hp; cases hp
  | succ n ih =>
    intro h w v4 v5 v6 r hp
    unfold p201_L102 at hp
    refine e_iload f201_102 rfl ?_
    by_cases hc15 : (v6) = (0 : Int32)
    · rw [if_pos hc15] at hp
      refine e_if_eq_t f201_104 hc15 ?_
      refine e_aload_n f201_221 rfl ?_
      refine e_iload f201_222 rfl ?_
      refine e_putI f201_224 (WF.t w 86 (by decide)) rfl ?_
      refine e_iload f201_227 rfl ?_
      have hp := Option.some.inj hp
      subst hp
      exact e_ireturn f201_229 (Or.inl rfl)
    · rw [if_neg hc15] at hp
      refine e_if_eq_f f201_104 hc15 ?_
      refine e_aload_n f201_107 rfl ?_
      refine e_iload_n f201_108 rfl ?_
      refine e_iload_n f201_109 rfl ?_
      obtain ⟨r16, hr17, hp⟩ := bind_some hp
      try dsimp only at hp
      refine e_callV (st := []) (o := 86) (as := [.int (a1), .int (a2)]) f201_110 (by decide) rfl rfl (Nat.le_of_ble_eq_true rfl) (WF.t w 86 (by decide)) (Nat.le_of_ble_eq_true rfl) (p197_ok d F (h) w (a1) (a2) r16 hr17) ?_
      show ex _ 201 (113, [some (.ref (86)), none, some (.int (a1)), some (.int (a2)), some (.int (v4)), some (.int (v5)), some (.int (v6)), none, none], [.int (r16)], h) = _
      refine e_istore (ls2 := [some (.ref (86)), none, some (.int (a1)), some (.int (a2)), some (.int (v4)), some (.int (v5)), some (.int (v6)), some (.int (r16)), none]) f201_113 (Nat.le_of_ble_eq_true rfl) rfl ?_
      refine e_iload f201_115 rfl ?_
      refine e_iload f201_117 rfl ?_
      by_cases hc18 : (v5) < ((r16) : Int32)
      · rw [if_pos hc18] at hp
        refine e_icmp_le_f f201_119 hc18 ?_
        refine e_iload f201_122 rfl ?_
        refine e_istore (ls2 := [some (.ref (86)), none, some (.int (a1)), some (.int (a2)), some (.int (v4)), some (.int (r16)), some (.int (v6)), some (.int (r16)), none]) f201_124 (Nat.le_of_ble_eq_true rfl) rfl ?_
        refine e_aload_n f201_126 rfl ?_
        refine e_iconst (v := 0) f201_127 (by decide) ?_
        refine e_putI f201_128 (WF.t w 86 (by decide)) rfl ?_
        refine ex_weak (ls := [some (.ref (86)), none, some (.int (a1)), some (.int (a2)), some (.int (v4)), some (.int (r16)), none, some (.int (r16)), none]) (le2_ok ⟨Or.inr rfl, Or.inl rfl, Or.inr rfl, Or.inr rfl, Or.inr rfl, Or.inr rfl, Or.inl rfl, Or.inr rfl, Or.inl rfl, trivial⟩) ?_
        exact p201_j131_ok d F a0 a1 a2 ((p201_L102 F a0 a1 a2 n)) (ih) (hsI (h) (86) 13 (0)) (w) (v4) (r16) (r16) _ hp
      · rw [if_neg hc18] at hp
        refine e_icmp_le_t f201_119 hc18 ?_
        refine ex_weak (ls := [some (.ref (86)), none, some (.int (a1)), some (.int (a2)), some (.int (v4)), some (.int (v5)), none, some (.int (r16)), none]) (le2_ok ⟨Or.inr rfl, Or.inl rfl, Or.inr rfl, Or.inr rfl, Or.inr rfl, Or.inr rfl, Or.inl rfl, Or.inr rfl, Or.inl rfl, trivial⟩) ?_
        exact p201_j131_ok d F a0 a1 a2 ((p201_L102 F a0 a1 a2 n)) (ih) (h) (w) (v4) (v5) (r16) _ hp
set_option maxRecDepth 100000 in
set_option maxHeartbeats 4000000 in
theorem p201_L102_w (F : Nat) (a0 : Int32) (a1 : Int32) (a2 : Int32) : ∀ (n : Nat) (h : HS) (w : WF h) (v4 : Int32) (v5 : Int32) (v6 : Int32) (r : Int32 × HS), p201_L102 F a0 a1 a2 n h v4 v5 v6 = some r → WF r.2 := by
  intro n
  induction n with
  | zero => intro h w v4 v5 v6 r hp; cases hp
  | succ n ih =>
    intro h w v4 v5 v6 r hp
    unfold p201_L102 at hp
    by_cases hc15 : (v6) = (0 : Int32)
    · rw [if_pos hc15] at hp
      have hp := Option.some.inj hp
      subst hp
      exact (w)
    · rw [if_neg hc15] at hp
      obtain ⟨r16, hr17, hp⟩ := bind_some hp
      try dsimp only at hp
      by_cases hc18 : (v5) < ((r16) : Int32)
      · rw [if_pos hc18] at hp
        exact p201_j131_w F a0 a1 a2 ((p201_L102 F a0 a1 a2 n)) (ih) (hsI (h) (86) 13 (0)) (w) (v4) (r16) (r16) _ hp
      · rw [if_neg hc18] at hp
        exact p201_j131_w F a0 a1 a2 ((p201_L102 F a0 a1 a2 n)) (ih) (h) (w) (v4) (v5) (r16) _ hp
set_option maxRecDepth 100000 in
set_option maxHeartbeats 4000000 in
theorem p201_L30_ok (d : Nat) (F : Nat) (a0 : Int32) (a1 : Int32) (a2 : Int32) : ∀ (n : Nat) (h : HS) (w : WF h) (v4 : Int32) (v5 : Int32) (r : Int32 × HS), p201_L30 F a0 a1 a2 n h v4 v5 = some r → ex (d + 2) 201 (30, [some (.ref (86)), some (.int (a0)), some (.int (a1)), some (.int (a2)), some (.int (v4)), some (.int (v5)), none, none, none], [], h) = some (some (.int (r.1)), r.2) := by
  intro n
  induction n with
  | zero => intro h w v4 v5 r hp; cases hp
  | succ n ih =>
    intro h w v4 v5 r hp
    unfold p201_L30 at hp
    refine e_iload f201_30 rfl ?_
    refine e_aload_n f201_32 rfl ?_
    refine e_getI f201_33 (WF.t w 86 (by decide)) (by decide) ?_
    by_cases hc7 : (v5) < ((hI (h) (86) 3) : Int32)
    · rw [if_pos hc7] at hp
      refine e_icmp_ge_f f201_36 hc7 ?_
      refine e_aload_n f201_39 rfl ?_
      refine e_getR f201_40 (WF.t w 86 (by decide)) rfl (WF.r (q := 88) w 86 5 (by decide)) ?_
      refine e_iload f201_43 rfl ?_
      by_cases hg8 : (v5) < (0 : Int32) ∨ 200 ≤ (v5).toNatClampNeg
      · rw [if_pos hg8] at hp; cases hp
      rw [if_neg hg8] at hp
      refine e_iaload f201_45 (Or.inl (WF.t w 88 (by decide))) (WF.n w 88 (by decide)) hg8 ?_
      refine e_iload_n f201_46 rfl ?_
      by_cases hc9 : (hI (h) (88) (v5).toNatClampNeg) = ((a0) : Int32)
      · rw [if_pos hc9] at hp
        refine e_icmp_ne_f f201_47 hc9 ?_
        refine e_aload_n f201_50 rfl ?_
        refine e_getR f201_51 (WF.t w 86 (by decide)) rfl (WF.r (q := 91) w 86 8 (by decide)) ?_
        refine e_iload f201_54 rfl ?_
        by_cases hg10 : (v5) < (0 : Int32) ∨ 200 ≤ (v5).toNatClampNeg
        · rw [if_pos hg10] at hp; cases hp
        rw [if_neg hg10] at hp
        refine e_iaload f201_56 (Or.inl (WF.t w 91 (by decide))) (WF.n w 91 (by decide)) hg10 ?_
        refine e_iconst (v := -1) f201_57 (by decide) ?_
        by_cases hc11 : (hI (h) (91) (v5).toNatClampNeg) = (((-1)) : Int32)
        · rw [if_pos hc11] at hp
          refine e_icmp_ne_f f201_58 hc11 ?_
          refine e_iload f201_61 rfl ?_
          refine e_bipush (v := 8) f201_63 (by decide) ?_
          by_cases hc12 : (v4) < ((8) : Int32)
          · rw [if_pos hc12] at hp
            refine e_icmp_ge_f f201_65 hc12 ?_
            refine e_aload_n f201_68 rfl ?_
            refine e_getR f201_69 (WF.t w 86 (by decide)) rfl (WF.r (q := 92) w 86 9 (by decide)) ?_
            refine e_iload f201_72 rfl ?_
            refine e_iload f201_74 rfl ?_
            by_cases hg13 : (v4) < (0 : Int32) ∨ 8 ≤ (v4).toNatClampNeg
            · rw [if_pos hg13] at hp; cases hp
            rw [if_neg hg13] at hp
            refine e_iastore f201_76 (WF.t w 92 (by decide)) (WF.n w 92 (by decide)) hg13 ?_
            refine ex_weak (ls := [some (.ref (86)), some (.int (a0)), some (.int (a1)), some (.int (a2)), some (.int (v4)), some (.int (v5)), none, none, none]) (le2_ok ⟨Or.inr rfl, Or.inr rfl, Or.inr rfl, Or.inr rfl, Or.inr rfl, Or.inr rfl, Or.inl rfl, Or.inl rfl, Or.inl rfl, trivial⟩) ?_
            exact p201_j77_ok d F a0 a1 a2 ((p201_L30 F a0 a1 a2 n)) (ih) (hsI (h) (92) (v4).toNatClampNeg (v5)) (w) (v4) (v5) _ hp
          · rw [if_neg hc12] at hp
            refine e_icmp_ge_t f201_65 hc12 ?_
            refine ex_weak (ls := [some (.ref (86)), some (.int (a0)), some (.int (a1)), some (.int (a2)), some (.int (v4)), some (.int (v5)), none, none, none]) (le2_ok ⟨Or.inr rfl, Or.inr rfl, Or.inr rfl, Or.inr rfl, Or.inr rfl, Or.inr rfl, Or.inl rfl, Or.inl rfl, Or.inl rfl, trivial⟩) ?_
            exact p201_j77_ok d F a0 a1 a2 ((p201_L30 F a0 a1 a2 n)) (ih) (h) (w) (v4) (v5) _ hp
        · rw [if_neg hc11] at hp
          refine e_icmp_ne_t f201_58 hc11 ?_
          refine ex_weak (ls := [some (.ref (86)), some (.int (a0)), some (.int (a1)), some (.int (a2)), some (.int (v4)), some (.int (v5)), none, none, none]) (le2_ok ⟨Or.inr rfl, Or.inr rfl, Or.inr rfl, Or.inr rfl, Or.inr rfl, Or.inr rfl, Or.inl rfl, Or.inl rfl, Or.inl rfl, trivial⟩) ?_
          exact p201_j80_ok d F a0 a1 a2 ((p201_L30 F a0 a1 a2 n)) (ih) (h) (w) (v4) (v5) _ hp
      · rw [if_neg hc9] at hp
        refine e_icmp_ne_t f201_47 hc9 ?_
        refine ex_weak (ls := [some (.ref (86)), some (.int (a0)), some (.int (a1)), some (.int (a2)), some (.int (v4)), some (.int (v5)), none, none, none]) (le2_ok ⟨Or.inr rfl, Or.inr rfl, Or.inr rfl, Or.inr rfl, Or.inr rfl, Or.inr rfl, Or.inl rfl, Or.inl rfl, Or.inl rfl, trivial⟩) ?_
        exact p201_j80_ok d F a0 a1 a2 ((p201_L30 F a0 a1 a2 n)) (ih) (h) (w) (v4) (v5) _ hp
    · rw [if_neg hc7] at hp
      refine e_icmp_ge_t f201_36 hc7 ?_
      refine e_iload f201_86 rfl ?_
      refine e_iload_n f201_88 rfl ?_
      refine e_iload_n f201_89 rfl ?_
      refine e_imul f201_90 ?_
      by_cases hc14 : (v4) = (((a1) * (a2)) : Int32)
      · rw [if_pos hc14] at hp
        refine e_icmp_eq_t f201_91 hc14 ?_
        refine e_iconst (v := -1) f201_96 (by decide) ?_
        refine e_istore (ls2 := [some (.ref (86)), some (.int (a0)), some (.int (a1)), some (.int (a2)), some (.int (v4)), some (.int ((-1))), none, none, none]) f201_97 (Nat.le_of_ble_eq_true rfl) rfl ?_
        refine e_iconst (v := 1) f201_99 (by decide) ?_
        refine e_istore (ls2 := [some (.ref (86)), some (.int (a0)), some (.int (a1)), some (.int (a2)), some (.int (v4)), some (.int ((-1))), some (.int (1)), none, none]) f201_100 (Nat.le_of_ble_eq_true rfl) rfl ?_
        refine ex_weak (ls := [some (.ref (86)), none, some (.int (a1)), some (.int (a2)), some (.int (v4)), some (.int ((-1))), some (.int (1)), none, none]) (le2_ok ⟨Or.inr rfl, Or.inl rfl, Or.inr rfl, Or.inr rfl, Or.inr rfl, Or.inr rfl, Or.inr rfl, Or.inl rfl, Or.inl rfl, trivial⟩) ?_
        exact p201_L102_ok d F a0 a1 a2 F (h) (w) (v4) ((-1)) (1) _ hp
      · rw [if_neg hc14] at hp
        refine e_icmp_eq_f f201_91 hc14 ?_
        refine e_iconst (v := -1) f201_94 (by decide) ?_
        have hp := Option.some.inj hp
        subst hp
        exact e_ireturn f201_95 (Or.inl rfl)
set_option maxRecDepth 100000 in
set_option maxHeartbeats 4000000 in
theorem p201_L30_w (F : Nat) (a0 : Int32) (a1 : Int32) (a2 : Int32) : ∀ (n : Nat) (h : HS) (w : WF h) (v4 : Int32) (v5 : Int32) (r : Int32 × HS), p201_L30 F a0 a1 a2 n h v4 v5 = some r → WF r.2 := by
  intro n
  induction n with
  | zero => intro h w v4 v5 r hp; cases hp
  | succ n ih =>
    intro h w v4 v5 r hp
    unfold p201_L30 at hp
    by_cases hc7 : (v5) < ((hI (h) (86) 3) : Int32)
    · rw [if_pos hc7] at hp
      by_cases hg8 : (v5) < (0 : Int32) ∨ 200 ≤ (v5).toNatClampNeg
      · rw [if_pos hg8] at hp; cases hp
      rw [if_neg hg8] at hp
      by_cases hc9 : (hI (h) (88) (v5).toNatClampNeg) = ((a0) : Int32)
      · rw [if_pos hc9] at hp
        by_cases hg10 : (v5) < (0 : Int32) ∨ 200 ≤ (v5).toNatClampNeg
        · rw [if_pos hg10] at hp; cases hp
        rw [if_neg hg10] at hp
        by_cases hc11 : (hI (h) (91) (v5).toNatClampNeg) = (((-1)) : Int32)
        · rw [if_pos hc11] at hp
          by_cases hc12 : (v4) < ((8) : Int32)
          · rw [if_pos hc12] at hp
            by_cases hg13 : (v4) < (0 : Int32) ∨ 8 ≤ (v4).toNatClampNeg
            · rw [if_pos hg13] at hp; cases hp
            rw [if_neg hg13] at hp
            exact p201_j77_w F a0 a1 a2 ((p201_L30 F a0 a1 a2 n)) (ih) (hsI (h) (92) (v4).toNatClampNeg (v5)) (w) (v4) (v5) _ hp
          · rw [if_neg hc12] at hp
            exact p201_j77_w F a0 a1 a2 ((p201_L30 F a0 a1 a2 n)) (ih) (h) (w) (v4) (v5) _ hp
        · rw [if_neg hc11] at hp
          exact p201_j80_w F a0 a1 a2 ((p201_L30 F a0 a1 a2 n)) (ih) (h) (w) (v4) (v5) _ hp
      · rw [if_neg hc9] at hp
        exact p201_j80_w F a0 a1 a2 ((p201_L30 F a0 a1 a2 n)) (ih) (h) (w) (v4) (v5) _ hp
    · rw [if_neg hc7] at hp
      by_cases hc14 : (v4) = (((a1) * (a2)) : Int32)
      · rw [if_pos hc14] at hp
        exact p201_L102_w F a0 a1 a2 F (h) (w) (v4) ((-1)) (1) _ hp
      · rw [if_neg hc14] at hp
        have hp := Option.some.inj hp
        subst hp
        exact (w)
set_option maxRecDepth 100000 in
set_option maxHeartbeats 4000000 in
theorem p201_ok (d : Nat) (F : Nat) (h : HS) (w : WF h) (a0 : Int32) (a1 : Int32) (a2 : Int32) (r : Int32 × HS) (hp : p201 F h a0 a1 a2 = some r) : ex (d + 2) 201 (ent 201 [.ref (86), .int (a0), .int (a1), .int (a2)] h) = some (some (.int (r.1)), r.2) := by
  rw [show ent 201 [.ref (86), .int (a0), .int (a1), .int (a2)] h = (0, [some (.ref (86)), some (.int (a0)), some (.int (a1)), some (.int (a2)), none, none, none, none, none], [], h) from by  rfl]
  refine ex_weak (ls := [some (.ref (86)), some (.int (a0)), some (.int (a1)), some (.int (a2)), none, none, none, none, none]) (le2_ok ⟨Or.inr rfl, Or.inr rfl, Or.inr rfl, Or.inr rfl, Or.inr rfl, Or.inr rfl, Or.inr rfl, Or.inr rfl, Or.inr rfl, trivial⟩) ?_
  unfold p201 at hp
  refine e_iload_n f201_0 rfl ?_
  refine e_iconst (v := 0) f201_1 (by decide) ?_
  refine e_aload_n f201_2 rfl ?_
  refine e_getI f201_3 (WF.t w 86 (by decide)) (by decide) ?_
  refine e_iconst (v := 1) f201_6 (by decide) ?_
  refine e_isub f201_7 ?_
  obtain ⟨r1, hr2, hp⟩ := bind_some hp
  try dsimp only at hp
  refine e_callS (st := []) (as := [.int (a0), .int (0), .int ((hI (h) (86) 2) - (1))]) f201_8 (by decide) rfl rfl (Nat.le_of_ble_eq_true rfl) (Nat.le_of_ble_eq_true rfl) (p187_ok (d + 1) (h) w (a0) (0) ((hI (h) (86) 2) - (1)) r1 hr2) ?_
  show ex _ 201 (11, [some (.ref (86)), some (.int (a0)), some (.int (a1)), some (.int (a2)), none, none, none, none, none], [.int (r1)], h) = _
  by_cases hc3 : (r1) = (0 : Int32)
  · rw [if_pos hc3] at hp
    refine e_if_eq_t f201_11 hc3 ?_
    refine e_iconst (v := -1) f201_22 (by decide) ?_
    have hp := Option.some.inj hp
    subst hp
    exact e_ireturn f201_23 (Or.inl rfl)
  · rw [if_neg hc3] at hp
    refine e_if_eq_f f201_11 hc3 ?_
    refine e_iload_n f201_14 rfl ?_
    refine e_iload_n f201_15 rfl ?_
    obtain ⟨r4, hr5, hp⟩ := bind_some hp
    try dsimp only at hp
    refine e_callS (st := []) (as := [.int (a1), .int (a2)]) f201_16 (by decide) rfl rfl (Nat.le_of_ble_eq_true rfl) (Nat.le_of_ble_eq_true rfl) (p200_ok d (h) w (a1) (a2) r4 hr5) ?_
    show ex _ 201 (19, [some (.ref (86)), some (.int (a0)), some (.int (a1)), some (.int (a2)), none, none, none, none, none], [.int (r4)], h) = _
    by_cases hc6 : (r4) = (0 : Int32)
    · rw [if_pos hc6] at hp
      refine e_if_ne_f f201_19 hc6 ?_
      refine e_iconst (v := -1) f201_22 (by decide) ?_
      have hp := Option.some.inj hp
      subst hp
      exact e_ireturn f201_23 (Or.inl rfl)
    · rw [if_neg hc6] at hp
      refine e_if_ne_t f201_19 hc6 ?_
      refine e_iconst (v := 0) f201_24 (by decide) ?_
      refine e_istore (ls2 := [some (.ref (86)), some (.int (a0)), some (.int (a1)), some (.int (a2)), some (.int (0)), none, none, none, none]) f201_25 (Nat.le_of_ble_eq_true rfl) rfl ?_
      refine e_iconst (v := 0) f201_27 (by decide) ?_
      refine e_istore (ls2 := [some (.ref (86)), some (.int (a0)), some (.int (a1)), some (.int (a2)), some (.int (0)), some (.int (0)), none, none, none]) f201_28 (Nat.le_of_ble_eq_true rfl) rfl ?_
      refine ex_weak (ls := [some (.ref (86)), some (.int (a0)), some (.int (a1)), some (.int (a2)), some (.int (0)), some (.int (0)), none, none, none]) (le2_ok ⟨Or.inr rfl, Or.inr rfl, Or.inr rfl, Or.inr rfl, Or.inr rfl, Or.inr rfl, Or.inl rfl, Or.inl rfl, Or.inl rfl, trivial⟩) ?_
      exact p201_L30_ok d F a0 a1 a2 F (h) (w) (0) (0) _ hp
set_option maxRecDepth 100000 in
set_option maxHeartbeats 4000000 in
theorem p201_w (F : Nat) (h : HS) (w : WF h) (a0 : Int32) (a1 : Int32) (a2 : Int32) (r : Int32 × HS) (hp : p201 F h a0 a1 a2 = some r) : WF r.2 := by
  unfold p201 at hp
  obtain ⟨r1, hr2, hp⟩ := bind_some hp
  try dsimp only at hp
  by_cases hc3 : (r1) = (0 : Int32)
  · rw [if_pos hc3] at hp
    have hp := Option.some.inj hp
    subst hp
    exact (w)
  · rw [if_neg hc3] at hp
    obtain ⟨r4, hr5, hp⟩ := bind_some hp
    try dsimp only at hp
    by_cases hc6 : (r4) = (0 : Int32)
    · rw [if_pos hc6] at hp
      have hp := Option.some.inj hp
      subst hp
      exact (w)
    · rw [if_neg hc6] at hp
      exact p201_L30_w F a0 a1 a2 F (h) (w) (0) (0) _ hp
theorem f202_0 : fetch 202 0 = some (.aload_n 0, 0, 0, 0) := rfl
theorem f202_1 : fetch 202 1 = some (.getfield 282, 12, 12, 0) := rfl
theorem f202_4 : fetch 202 4 = some (.ifCond .ne 5, 9, 0, 0) := rfl
theorem f202_7 : fetch 202 7 = some (.iconst (-1), 0, 0, 0) := rfl
theorem f202_8 : fetch 202 8 = some (.ireturn, 0, 0, 0) := rfl
theorem f202_9 : fetch 202 9 = some (.iload_n 2, 0, 0, 0) := rfl
theorem f202_10 : fetch 202 10 = some (.iconst (-1), 0, 0, 0) := rfl
theorem f202_11 : fetch 202 11 = some (.if_icmp .ne 8, 19, 0, 0) := rfl
theorem f202_14 : fetch 202 14 = some (.aload_n 0, 0, 0, 0) := rfl
theorem f202_15 : fetch 202 15 = some (.getfield 276, 12, 13, 0) := rfl
theorem f202_18 : fetch 202 18 = some (.ireturn, 0, 0, 0) := rfl
theorem f202_19 : fetch 202 19 = some (.iload_n 1, 0, 0, 0) := rfl
theorem f202_20 : fetch 202 20 = some (.iconst 0, 0, 0, 0) := rfl
theorem f202_21 : fetch 202 21 = some (.iconst 1, 0, 0, 0) := rfl
theorem f202_22 : fetch 202 22 = some (.invokestatic 240, 187, 3, 1) := rfl
theorem f202_25 : fetch 202 25 = some (.ifCond .eq 25, 50, 0, 0) := rfl
theorem f202_28 : fetch 202 28 = some (.iload_n 1, 0, 0, 0) := rfl
theorem f202_29 : fetch 202 29 = some (.aload_n 0, 0, 0, 0) := rfl
theorem f202_30 : fetch 202 30 = some (.getfield 276, 12, 13, 0) := rfl
theorem f202_33 : fetch 202 33 = some (.if_icmp .ge 17, 50, 0, 0) := rfl
theorem f202_36 : fetch 202 36 = some (.iload_n 2, 0, 0, 0) := rfl
theorem f202_37 : fetch 202 37 = some (.iconst 0, 0, 0, 0) := rfl
theorem f202_38 : fetch 202 38 = some (.aload_n 0, 0, 0, 0) := rfl
theorem f202_39 : fetch 202 39 = some (.getfield 282, 12, 12, 0) := rfl
theorem f202_42 : fetch 202 42 = some (.iconst 1, 0, 0, 0) := rfl
theorem f202_43 : fetch 202 43 = some (.isub, 0, 0, 0) := rfl
theorem f202_44 : fetch 202 44 = some (.invokestatic 240, 187, 3, 1) := rfl
theorem f202_47 : fetch 202 47 = some (.ifCond .ne 7, 54, 0, 0) := rfl
theorem f202_50 : fetch 202 50 = some (.iconst (-1), 0, 0, 0) := rfl
theorem f202_51 : fetch 202 51 = some (.goto 22, 73, 0, 0) := rfl
theorem f202_54 : fetch 202 54 = some (.iload_n 1, 0, 0, 0) := rfl
theorem f202_55 : fetch 202 55 = some (.ifCond .ne 12, 67, 0, 0) := rfl
theorem f202_58 : fetch 202 58 = some (.aload_n 0, 0, 0, 0) := rfl
theorem f202_59 : fetch 202 59 = some (.getfield 28, 12, 10, 2) := rfl
theorem f202_62 : fetch 202 62 = some (.iload_n 2, 0, 0, 0) := rfl
theorem f202_63 : fetch 202 63 = some (.iaload, 0, 0, 0) := rfl
theorem f202_64 : fetch 202 64 = some (.goto 9, 73, 0, 0) := rfl
theorem f202_67 : fetch 202 67 = some (.aload_n 0, 0, 0, 0) := rfl
theorem f202_68 : fetch 202 68 = some (.getfield 31, 12, 11, 2) := rfl
theorem f202_71 : fetch 202 71 = some (.iload_n 2, 0, 0, 0) := rfl
theorem f202_72 : fetch 202 72 = some (.iaload, 0, 0, 0) := rfl
theorem f202_73 : fetch 202 73 = some (.ireturn, 0, 0, 0) := rfl
set_option maxRecDepth 100000 in
set_option maxHeartbeats 4000000 in
theorem p202_ok (d : Nat) (h : HS) (w : WF h) (a0 : Int32) (a1 : Int32) (r : Int32) (hp : p202 h a0 a1 = some r) : ex (d + 1) 202 (ent 202 [.ref (86), .int (a0), .int (a1)] h) = some (some (.int (r)), h) := by
  rw [show ent 202 [.ref (86), .int (a0), .int (a1)] h = (0, [some (.ref (86)), some (.int (a0)), some (.int (a1))], [], h) from by  rfl]
  refine ex_weak (ls := [some (.ref (86)), some (.int (a0)), some (.int (a1))]) (le2_ok ⟨Or.inr rfl, Or.inr rfl, Or.inr rfl, trivial⟩) ?_
  unfold p202 at hp
  refine e_aload_n f202_0 rfl ?_
  refine e_getI f202_1 (WF.t w 86 (by decide)) (by decide) ?_
  by_cases hc1 : (hI (h) (86) 12) = (0 : Int32)
  · rw [if_pos hc1] at hp
    refine e_if_ne_f f202_4 hc1 ?_
    refine e_iconst (v := -1) f202_7 (by decide) ?_
    have hp := Option.some.inj hp
    subst hp
    exact e_ireturn f202_8 (Or.inl rfl)
  · rw [if_neg hc1] at hp
    refine e_if_ne_t f202_4 hc1 ?_
    refine e_iload_n f202_9 rfl ?_
    refine e_iconst (v := -1) f202_10 (by decide) ?_
    by_cases hc2 : (a1) = (((-1)) : Int32)
    · rw [if_pos hc2] at hp
      refine e_icmp_ne_f f202_11 hc2 ?_
      refine e_aload_n f202_14 rfl ?_
      refine e_getI f202_15 (WF.t w 86 (by decide)) (by decide) ?_
      have hp := Option.some.inj hp
      subst hp
      exact e_ireturn f202_18 (Or.inl rfl)
    · rw [if_neg hc2] at hp
      refine e_icmp_ne_t f202_11 hc2 ?_
      refine e_iload_n f202_19 rfl ?_
      refine e_iconst (v := 0) f202_20 (by decide) ?_
      refine e_iconst (v := 1) f202_21 (by decide) ?_
      obtain ⟨r3, hr4, hp⟩ := bind_some hp
      try dsimp only at hp
      refine e_callS (st := []) (as := [.int (a0), .int (0), .int (1)]) f202_22 (by decide) rfl rfl (Nat.le_of_ble_eq_true rfl) (Nat.le_of_ble_eq_true rfl) (p187_ok d (h) w (a0) (0) (1) r3 hr4) ?_
      show ex _ 202 (25, [some (.ref (86)), some (.int (a0)), some (.int (a1))], [.int (r3)], h) = _
      by_cases hc5 : (r3) = (0 : Int32)
      · rw [if_pos hc5] at hp
        refine e_if_eq_t f202_25 hc5 ?_
        refine e_iconst (v := -1) f202_50 (by decide) ?_
        refine e_goto f202_51 ?_
        have hp := Option.some.inj hp
        subst hp
        exact e_ireturn f202_73 (Or.inl rfl)
      · rw [if_neg hc5] at hp
        refine e_if_eq_f f202_25 hc5 ?_
        refine e_iload_n f202_28 rfl ?_
        refine e_aload_n f202_29 rfl ?_
        refine e_getI f202_30 (WF.t w 86 (by decide)) (by decide) ?_
        by_cases hc6 : (a0) < ((hI (h) (86) 13) : Int32)
        · rw [if_pos hc6] at hp
          refine e_icmp_ge_f f202_33 hc6 ?_
          refine e_iload_n f202_36 rfl ?_
          refine e_iconst (v := 0) f202_37 (by decide) ?_
          refine e_aload_n f202_38 rfl ?_
          refine e_getI f202_39 (WF.t w 86 (by decide)) (by decide) ?_
          refine e_iconst (v := 1) f202_42 (by decide) ?_
          refine e_isub f202_43 ?_
          obtain ⟨r7, hr8, hp⟩ := bind_some hp
          try dsimp only at hp
          refine e_callS (st := []) (as := [.int (a1), .int (0), .int ((hI (h) (86) 12) - (1))]) f202_44 (by decide) rfl rfl (Nat.le_of_ble_eq_true rfl) (Nat.le_of_ble_eq_true rfl) (p187_ok d (h) w (a1) (0) ((hI (h) (86) 12) - (1)) r7 hr8) ?_
          show ex _ 202 (47, [some (.ref (86)), some (.int (a0)), some (.int (a1))], [.int (r7)], h) = _
          by_cases hc9 : (r7) = (0 : Int32)
          · rw [if_pos hc9] at hp
            refine e_if_ne_f f202_47 hc9 ?_
            refine e_iconst (v := -1) f202_50 (by decide) ?_
            refine e_goto f202_51 ?_
            have hp := Option.some.inj hp
            subst hp
            exact e_ireturn f202_73 (Or.inl rfl)
          · rw [if_neg hc9] at hp
            refine e_if_ne_t f202_47 hc9 ?_
            refine e_iload_n f202_54 rfl ?_
            by_cases hc10 : (a0) = (0 : Int32)
            · rw [if_pos hc10] at hp
              refine e_if_ne_f f202_55 hc10 ?_
              refine e_aload_n f202_58 rfl ?_
              refine e_getR f202_59 (WF.t w 86 (by decide)) rfl (WF.r (q := 93) w 86 10 (by decide)) ?_
              refine e_iload_n f202_62 rfl ?_
              by_cases hg11 : (a1) < (0 : Int32) ∨ 8 ≤ (a1).toNatClampNeg
              · rw [if_pos hg11] at hp; cases hp
              rw [if_neg hg11] at hp
              refine e_iaload f202_63 (Or.inl (WF.t w 93 (by decide))) (WF.n w 93 (by decide)) hg11 ?_
              refine e_goto f202_64 ?_
              have hp := Option.some.inj hp
              subst hp
              exact e_ireturn f202_73 (Or.inl rfl)
            · rw [if_neg hc10] at hp
              refine e_if_ne_t f202_55 hc10 ?_
              refine e_aload_n f202_67 rfl ?_
              refine e_getR f202_68 (WF.t w 86 (by decide)) rfl (WF.r (q := 94) w 86 11 (by decide)) ?_
              refine e_iload_n f202_71 rfl ?_
              by_cases hg12 : (a1) < (0 : Int32) ∨ 8 ≤ (a1).toNatClampNeg
              · rw [if_pos hg12] at hp; cases hp
              rw [if_neg hg12] at hp
              refine e_iaload f202_72 (Or.inl (WF.t w 94 (by decide))) (WF.n w 94 (by decide)) hg12 ?_
              have hp := Option.some.inj hp
              subst hp
              exact e_ireturn f202_73 (Or.inl rfl)
        · rw [if_neg hc6] at hp
          refine e_icmp_ge_t f202_33 hc6 ?_
          refine e_iconst (v := -1) f202_50 (by decide) ?_
          refine e_goto f202_51 ?_
          have hp := Option.some.inj hp
          subst hp
          exact e_ireturn f202_73 (Or.inl rfl)
theorem f203_0 : fetch 203 0 = some (.iload_n 1, 0, 0, 0) := rfl
theorem f203_1 : fetch 203 1 = some (.iload_n 2, 0, 0, 0) := rfl
theorem f203_2 : fetch 203 2 = some (.invokestatic 268, 200, 2, 1) := rfl
theorem f203_5 : fetch 203 5 = some (.ifCond .ne 5, 10, 0, 0) := rfl
theorem f203_8 : fetch 203 8 = some (.iconst (-1), 0, 0, 0) := rfl
theorem f203_9 : fetch 203 9 = some (.ireturn, 0, 0, 0) := rfl
theorem f203_10 : fetch 203 10 = some (.iconst 0, 0, 0, 0) := rfl
theorem f203_11 : fetch 203 11 = some (.istore 5, 0, 0, 0) := rfl
theorem f203_13 : fetch 203 13 = some (.iload 5, 0, 0, 0) := rfl
theorem f203_15 : fetch 203 15 = some (.iload_n 1, 0, 0, 0) := rfl
theorem f203_16 : fetch 203 16 = some (.iload_n 2, 0, 0, 0) := rfl
theorem f203_17 : fetch 203 17 = some (.imul, 0, 0, 0) := rfl
theorem f203_18 : fetch 203 18 = some (.if_icmp .ge 79, 97, 0, 0) := rfl
theorem f203_21 : fetch 203 21 = some (.aload_n 0, 0, 0, 0) := rfl
theorem f203_22 : fetch 203 22 = some (.getfield 25, 12, 9, 2) := rfl
theorem f203_25 : fetch 203 25 = some (.iload 5, 0, 0, 0) := rfl
theorem f203_27 : fetch 203 27 = some (.lload_n 3, 0, 0, 0) := rfl
theorem f203_28 : fetch 203 28 = some (.bipush 8, 0, 0, 0) := rfl
theorem f203_30 : fetch 203 30 = some (.iload 5, 0, 0, 0) := rfl
theorem f203_32 : fetch 203 32 = some (.imul, 0, 0, 0) := rfl
theorem f203_33 : fetch 203 33 = some (.lshr, 0, 0, 0) := rfl
theorem f203_34 : fetch 203 34 = some (.ldc2_w 285, 0, 0, 255) := rfl
theorem f203_37 : fetch 203 37 = some (.land, 0, 0, 0) := rfl
theorem f203_38 : fetch 203 38 = some (.l2i, 0, 0, 0) := rfl
theorem f203_39 : fetch 203 39 = some (.iastore, 0, 0, 0) := rfl
theorem f203_40 : fetch 203 40 = some (.aload_n 0, 0, 0, 0) := rfl
theorem f203_41 : fetch 203 41 = some (.aload_n 0, 0, 0, 0) := rfl
theorem f203_42 : fetch 203 42 = some (.getfield 25, 12, 9, 2) := rfl
theorem f203_45 : fetch 203 45 = some (.iload 5, 0, 0, 0) := rfl
theorem f203_47 : fetch 203 47 = some (.iaload, 0, 0, 0) := rfl
theorem f203_48 : fetch 203 48 = some (.invokevirtual 256, 193, 1, 0) := rfl
theorem f203_51 : fetch 203 51 = some (.ifCond .ne 5, 56, 0, 0) := rfl
theorem f203_54 : fetch 203 54 = some (.iconst (-1), 0, 0, 0) := rfl
theorem f203_55 : fetch 203 55 = some (.ireturn, 0, 0, 0) := rfl
theorem f203_56 : fetch 203 56 = some (.iconst 0, 0, 0, 0) := rfl
theorem f203_57 : fetch 203 57 = some (.istore 6, 0, 0, 0) := rfl
theorem f203_59 : fetch 203 59 = some (.iload 6, 0, 0, 0) := rfl
theorem f203_61 : fetch 203 61 = some (.iload 5, 0, 0, 0) := rfl
theorem f203_63 : fetch 203 63 = some (.if_icmp .ge 28, 91, 0, 0) := rfl
theorem f203_66 : fetch 203 66 = some (.aload_n 0, 0, 0, 0) := rfl
theorem f203_67 : fetch 203 67 = some (.getfield 25, 12, 9, 2) := rfl
theorem f203_70 : fetch 203 70 = some (.iload 6, 0, 0, 0) := rfl
theorem f203_72 : fetch 203 72 = some (.iaload, 0, 0, 0) := rfl
theorem f203_73 : fetch 203 73 = some (.aload_n 0, 0, 0, 0) := rfl
theorem f203_74 : fetch 203 74 = some (.getfield 25, 12, 9, 2) := rfl
theorem f203_77 : fetch 203 77 = some (.iload 5, 0, 0, 0) := rfl
theorem f203_79 : fetch 203 79 = some (.iaload, 0, 0, 0) := rfl
theorem f203_80 : fetch 203 80 = some (.if_icmp .ne 5, 85, 0, 0) := rfl
theorem f203_83 : fetch 203 83 = some (.iconst (-1), 0, 0, 0) := rfl
theorem f203_84 : fetch 203 84 = some (.ireturn, 0, 0, 0) := rfl
theorem f203_85 : fetch 203 85 = some (.iinc 6 1, 0, 0, 0) := rfl
theorem f203_88 : fetch 203 88 = some (.goto (-29), 59, 0, 0) := rfl
theorem f203_91 : fetch 203 91 = some (.iinc 5 1, 0, 0, 0) := rfl
theorem f203_94 : fetch 203 94 = some (.goto (-81), 13, 0, 0) := rfl
theorem f203_97 : fetch 203 97 = some (.aload_n 0, 0, 0, 0) := rfl
theorem f203_98 : fetch 203 98 = some (.iload_n 1, 0, 0, 0) := rfl
theorem f203_99 : fetch 203 99 = some (.iload_n 2, 0, 0, 0) := rfl
theorem f203_100 : fetch 203 100 = some (.invokevirtual 272, 197, 2, 0) := rfl
theorem f203_103 : fetch 203 103 = some (.ireturn, 0, 0, 0) := rfl
set_option maxRecDepth 100000 in
set_option maxHeartbeats 4000000 in
theorem p203_L59_ok (d : Nat) (F : Nat) (a0 : Int32) (a1 : Int32) (a2 : Int64) (K13 : HS → Int32 → Option (Int32 × HS)) (hK13 : ∀ (h : HS) (w : WF h) (u5 : Int32) (r : Int32 × HS), K13 h u5 = some r → ex (d + 2) 203 (13, [some (.ref (86)), some (.int (a0)), some (.int (a1)), some (.long (a2)), none, some (.int (u5)), none], [], h) = some (some (.int (r.1)), r.2)) : ∀ (n : Nat) (h : HS) (w : WF h) (v5 : Int32) (v6 : Int32) (r : Int32 × HS), p203_L59 F a0 a1 a2 K13 n h v5 v6 = some r → ex (d + 2) 203 (59, [some (.ref (86)), some (.int (a0)), some (.int (a1)), some (.long (a2)), none, some (.int (v5)), some (.int (v6))], [], h) = some (some (.int (r.1)), r.2) := by
  intro n
  induction n with
  | zero => intro h w v5 v6 r hp; cases hp
  | succ n ih =>
    intro h w v5 v6 r hp
    unfold p203_L59 at hp
    refine e_iload f203_59 rfl ?_
    refine e_iload f203_61 rfl ?_
    by_cases hc15 : (v6) < ((v5) : Int32)
    · rw [if_pos hc15] at hp
      refine e_icmp_ge_f f203_63 hc15 ?_
      refine e_aload_n f203_66 rfl ?_
      refine e_getR f203_67 (WF.t w 86 (by decide)) rfl (WF.r (q := 92) w 86 9 (by decide)) ?_
      refine e_iload f203_70 rfl ?_
      by_cases hg16 : (v6) < (0 : Int32) ∨ 8 ≤ (v6).toNatClampNeg
      · rw [if_pos hg16] at hp; cases hp
      rw [if_neg hg16] at hp
      refine e_iaload f203_72 (Or.inl (WF.t w 92 (by decide))) (WF.n w 92 (by decide)) hg16 ?_
      refine e_aload_n f203_73 rfl ?_
      refine e_getR f203_74 (WF.t w 86 (by decide)) rfl (WF.r (q := 92) w 86 9 (by decide)) ?_
      refine e_iload f203_77 rfl ?_
      by_cases hg17 : (v5) < (0 : Int32) ∨ 8 ≤ (v5).toNatClampNeg
      · rw [if_pos hg17] at hp; cases hp
      rw [if_neg hg17] at hp
      refine e_iaload f203_79 (Or.inl (WF.t w 92 (by decide))) (WF.n w 92 (by decide)) hg17 ?_
      by_cases hc18 : (hI (h) (92) (v6).toNatClampNeg) = ((hI (h) (92) (v5).toNatClampNeg) : Int32)
      · rw [if_pos hc18] at hp
        refine e_icmp_ne_f f203_80 hc18 ?_
        refine e_iconst (v := -1) f203_83 (by decide) ?_
        have hp := Option.some.inj hp
        subst hp
        exact e_ireturn f203_84 (Or.inl rfl)
      · rw [if_neg hc18] at hp
        refine e_icmp_ne_t f203_80 hc18 ?_
        refine e_iinc (ls2 := [some (.ref (86)), some (.int (a0)), some (.int (a1)), some (.long (a2)), none, some (.int (v5)), some (.int ((v6) + 1))]) f203_85 (by decide) rfl rfl ?_
        refine e_goto f203_88 ?_
        refine ex_weak (ls := [some (.ref (86)), some (.int (a0)), some (.int (a1)), some (.long (a2)), none, some (.int (v5)), some (.int ((v6) + 1))]) (le2_ok ⟨Or.inr rfl, Or.inr rfl, Or.inr rfl, Or.inr rfl, Or.inl rfl, Or.inr rfl, Or.inr rfl, trivial⟩) ?_
        exact ih (h) (w) (v5) ((v6) + 1) _ hp
    · rw [if_neg hc15] at hp
      refine e_icmp_ge_t f203_63 hc15 ?_
      refine e_iinc (ls2 := [some (.ref (86)), some (.int (a0)), some (.int (a1)), some (.long (a2)), none, some (.int ((v5) + 1)), some (.int (v6))]) f203_91 (by decide) rfl rfl ?_
      refine e_goto f203_94 ?_
      refine ex_weak (ls := [some (.ref (86)), some (.int (a0)), some (.int (a1)), some (.long (a2)), none, some (.int ((v5) + 1)), none]) (le2_ok ⟨Or.inr rfl, Or.inr rfl, Or.inr rfl, Or.inr rfl, Or.inl rfl, Or.inr rfl, Or.inl rfl, trivial⟩) ?_
      exact hK13 (h) (w) ((v5) + 1) _ hp
set_option maxRecDepth 100000 in
set_option maxHeartbeats 4000000 in
theorem p203_L59_w (F : Nat) (a0 : Int32) (a1 : Int32) (a2 : Int64) (K13 : HS → Int32 → Option (Int32 × HS)) (hK13 : ∀ (h : HS) (w : WF h) (u5 : Int32) (r : Int32 × HS), K13 h u5 = some r → WF r.2) : ∀ (n : Nat) (h : HS) (w : WF h) (v5 : Int32) (v6 : Int32) (r : Int32 × HS), p203_L59 F a0 a1 a2 K13 n h v5 v6 = some r → WF r.2 := by
  intro n
  induction n with
  | zero => intro h w v5 v6 r hp; cases hp
  | succ n ih =>
    intro h w v5 v6 r hp
    unfold p203_L59 at hp
    by_cases hc15 : (v6) < ((v5) : Int32)
    · rw [if_pos hc15] at hp
      by_cases hg16 : (v6) < (0 : Int32) ∨ 8 ≤ (v6).toNatClampNeg
      · rw [if_pos hg16] at hp; cases hp
      rw [if_neg hg16] at hp
      by_cases hg17 : (v5) < (0 : Int32) ∨ 8 ≤ (v5).toNatClampNeg
      · rw [if_pos hg17] at hp; cases hp
      rw [if_neg hg17] at hp
      by_cases hc18 : (hI (h) (92) (v6).toNatClampNeg) = ((hI (h) (92) (v5).toNatClampNeg) : Int32)
      · rw [if_pos hc18] at hp
        have hp := Option.some.inj hp
        subst hp
        exact (w)
      · rw [if_neg hc18] at hp
        exact ih (h) (w) (v5) ((v6) + 1) _ hp
    · rw [if_neg hc15] at hp
      exact hK13 (h) (w) ((v5) + 1) _ hp
set_option maxRecDepth 100000 in
set_option maxHeartbeats 4000000 in
theorem p203_L13_ok (d : Nat) (F : Nat) (a0 : Int32) (a1 : Int32) (a2 : Int64) : ∀ (n : Nat) (h : HS) (w : WF h) (v5 : Int32) (r : Int32 × HS), p203_L13 F a0 a1 a2 n h v5 = some r → ex (d + 2) 203 (13, [some (.ref (86)), some (.int (a0)), some (.int (a1)), some (.long (a2)), none, some (.int (v5)), none], [], h) = some (some (.int (r.1)), r.2) := by
  intro n
  induction n with
  | zero => intro h w v5 r hp; cases hp
  | succ n ih =>
    intro h w v5 r hp
    unfold p203_L13 at hp
    refine e_iload f203_13 rfl ?_
    refine e_iload_n f203_15 rfl ?_
    refine e_iload_n f203_16 rfl ?_
    refine e_imul f203_17 ?_
    by_cases hc4 : (v5) < (((a0) * (a1)) : Int32)
    · rw [if_pos hc4] at hp
      refine e_icmp_ge_f f203_18 hc4 ?_
      refine e_aload_n f203_21 rfl ?_
      refine e_getR f203_22 (WF.t w 86 (by decide)) rfl (WF.r (q := 92) w 86 9 (by decide)) ?_
      refine e_iload f203_25 rfl ?_
      refine e_lload_n f203_27 rfl ?_
      refine e_bipush (v := 8) f203_28 (by decide) ?_
      refine e_iload f203_30 rfl ?_
      refine e_imul f203_32 ?_
      refine e_lshr f203_33 ?_
      refine e_ldc2 (v := 255) f203_34 (by decide) ?_
      refine e_land f203_37 ?_
      refine e_l2i f203_38 ?_
      by_cases hg5 : (v5) < (0 : Int32) ∨ 8 ≤ (v5).toNatClampNeg
      · rw [if_pos hg5] at hp; cases hp
      rw [if_neg hg5] at hp
      refine e_iastore f203_39 (WF.t w 92 (by decide)) (WF.n w 92 (by decide)) hg5 ?_
      obtain ⟨h6, e7, hp⟩ := bind_some hp
      try dsimp only at hp
      have e7 := Option.some.inj e7
      have w8 : WF h6 := e7 ▸ w
      rw [e7]
      refine e_aload_n f203_40 rfl ?_
      refine e_aload_n f203_41 rfl ?_
      refine e_getR f203_42 (WF.t w8 86 (by decide)) rfl (WF.r (q := 92) w8 86 9 (by decide)) ?_
      refine e_iload f203_45 rfl ?_
      by_cases hg9 : (v5) < (0 : Int32) ∨ 8 ≤ (v5).toNatClampNeg
      · rw [if_pos hg9] at hp; cases hp
      rw [if_neg hg9] at hp
      refine e_iaload f203_47 (Or.inl (WF.t w8 92 (by decide))) (WF.n w8 92 (by decide)) hg9 ?_
      obtain ⟨r10, hr11, hp⟩ := bind_some hp
      try dsimp only at hp
      refine e_callV (st := []) (o := 86) (as := [.int (hI (h6) (92) (v5).toNatClampNeg)]) f203_48 (by decide) rfl rfl (Nat.le_of_ble_eq_true rfl) (WF.t w8 86 (by decide)) (Nat.le_of_ble_eq_true rfl) (p193_ok d (h6) w8 (hI (h6) (92) (v5).toNatClampNeg) r10 hr11) ?_
      show ex _ 203 (51, [some (.ref (86)), some (.int (a0)), some (.int (a1)), some (.long (a2)), none, some (.int (v5)), none], [.int (r10)], h6) = _
      by_cases hc12 : (r10) = (0 : Int32)
      · rw [if_pos hc12] at hp
        refine e_if_ne_f f203_51 hc12 ?_
        refine e_iconst (v := -1) f203_54 (by decide) ?_
        have hp := Option.some.inj hp
        subst hp
        exact e_ireturn f203_55 (Or.inl rfl)
      · rw [if_neg hc12] at hp
        refine e_if_ne_t f203_51 hc12 ?_
        refine e_iconst (v := 0) f203_56 (by decide) ?_
        refine e_istore (ls2 := [some (.ref (86)), some (.int (a0)), some (.int (a1)), some (.long (a2)), none, some (.int (v5)), some (.int (0))]) f203_57 (Nat.le_of_ble_eq_true rfl) rfl ?_
        refine ex_weak (ls := [some (.ref (86)), some (.int (a0)), some (.int (a1)), some (.long (a2)), none, some (.int (v5)), some (.int (0))]) (le2_ok ⟨Or.inr rfl, Or.inr rfl, Or.inr rfl, Or.inr rfl, Or.inl rfl, Or.inr rfl, Or.inr rfl, trivial⟩) ?_
        exact p203_L59_ok d F a0 a1 a2 ((p203_L13 F a0 a1 a2 n)) (ih) F (h6) (w8) (v5) (0) _ hp
    · rw [if_neg hc4] at hp
      refine e_icmp_ge_t f203_18 hc4 ?_
      refine e_aload_n f203_97 rfl ?_
      refine e_iload_n f203_98 rfl ?_
      refine e_iload_n f203_99 rfl ?_
      obtain ⟨r13, hr14, hp⟩ := bind_some hp
      try dsimp only at hp
      refine e_callV (st := []) (o := 86) (as := [.int (a0), .int (a1)]) f203_100 (by decide) rfl rfl (Nat.le_of_ble_eq_true rfl) (WF.t w 86 (by decide)) (Nat.le_of_ble_eq_true rfl) (p197_ok d F (h) w (a0) (a1) r13 hr14) ?_
      show ex _ 203 (103, [some (.ref (86)), some (.int (a0)), some (.int (a1)), some (.long (a2)), none, some (.int (v5)), none], [.int (r13)], h) = _
      have hp := Option.some.inj hp
      subst hp
      exact e_ireturn f203_103 (Or.inl rfl)
set_option maxRecDepth 100000 in
set_option maxHeartbeats 4000000 in
theorem p203_L13_w (F : Nat) (a0 : Int32) (a1 : Int32) (a2 : Int64) : ∀ (n : Nat) (h : HS) (w : WF h) (v5 : Int32) (r : Int32 × HS), p203_L13 F a0 a1 a2 n h v5 = some r → WF r.2 := by
  intro n
  induction n with
  | zero => intro h w v5 r hp; cases hp
  | succ n ih =>
    intro h w v5 r hp
    unfold p203_L13 at hp
    by_cases hc4 : (v5) < (((a0) * (a1)) : Int32)
    · rw [if_pos hc4] at hp
      by_cases hg5 : (v5) < (0 : Int32) ∨ 8 ≤ (v5).toNatClampNeg
      · rw [if_pos hg5] at hp; cases hp
      rw [if_neg hg5] at hp
      obtain ⟨h6, e7, hp⟩ := bind_some hp
      try dsimp only at hp
      have e7 := Option.some.inj e7
      have w8 : WF h6 := e7 ▸ w
      by_cases hg9 : (v5) < (0 : Int32) ∨ 8 ≤ (v5).toNatClampNeg
      · rw [if_pos hg9] at hp; cases hp
      rw [if_neg hg9] at hp
      obtain ⟨r10, hr11, hp⟩ := bind_some hp
      try dsimp only at hp
      by_cases hc12 : (r10) = (0 : Int32)
      · rw [if_pos hc12] at hp
        have hp := Option.some.inj hp
        subst hp
        exact (w8)
      · rw [if_neg hc12] at hp
        exact p203_L59_w F a0 a1 a2 ((p203_L13 F a0 a1 a2 n)) (ih) F (h6) (w8) (v5) (0) _ hp
    · rw [if_neg hc4] at hp
      obtain ⟨r13, hr14, hp⟩ := bind_some hp
      try dsimp only at hp
      have hp := Option.some.inj hp
      subst hp
      exact (w)
set_option maxRecDepth 100000 in
set_option maxHeartbeats 4000000 in
theorem p203_ok (d : Nat) (F : Nat) (h : HS) (w : WF h) (a0 : Int32) (a1 : Int32) (a2 : Int64) (r : Int32 × HS) (hp : p203 F h a0 a1 a2 = some r) : ex (d + 2) 203 (ent 203 [.ref (86), .int (a0), .int (a1), .long (a2)] h) = some (some (.int (r.1)), r.2) := by
  rw [show ent 203 [.ref (86), .int (a0), .int (a1), .long (a2)] h = (0, [some (.ref (86)), some (.int (a0)), some (.int (a1)), some (.long (a2)), none, none, none], [], h) from by  rfl]
  refine ex_weak (ls := [some (.ref (86)), some (.int (a0)), some (.int (a1)), some (.long (a2)), none, none, none]) (le2_ok ⟨Or.inr rfl, Or.inr rfl, Or.inr rfl, Or.inr rfl, Or.inr rfl, Or.inr rfl, Or.inr rfl, trivial⟩) ?_
  unfold p203 at hp
  refine e_iload_n f203_0 rfl ?_
  refine e_iload_n f203_1 rfl ?_
  obtain ⟨r1, hr2, hp⟩ := bind_some hp
  try dsimp only at hp
  refine e_callS (st := []) (as := [.int (a0), .int (a1)]) f203_2 (by decide) rfl rfl (Nat.le_of_ble_eq_true rfl) (Nat.le_of_ble_eq_true rfl) (p200_ok d (h) w (a0) (a1) r1 hr2) ?_
  show ex _ 203 (5, [some (.ref (86)), some (.int (a0)), some (.int (a1)), some (.long (a2)), none, none, none], [.int (r1)], h) = _
  by_cases hc3 : (r1) = (0 : Int32)
  · rw [if_pos hc3] at hp
    refine e_if_ne_f f203_5 hc3 ?_
    refine e_iconst (v := -1) f203_8 (by decide) ?_
    have hp := Option.some.inj hp
    subst hp
    exact e_ireturn f203_9 (Or.inl rfl)
  · rw [if_neg hc3] at hp
    refine e_if_ne_t f203_5 hc3 ?_
    refine e_iconst (v := 0) f203_10 (by decide) ?_
    refine e_istore (ls2 := [some (.ref (86)), some (.int (a0)), some (.int (a1)), some (.long (a2)), none, some (.int (0)), none]) f203_11 (Nat.le_of_ble_eq_true rfl) rfl ?_
    refine ex_weak (ls := [some (.ref (86)), some (.int (a0)), some (.int (a1)), some (.long (a2)), none, some (.int (0)), none]) (le2_ok ⟨Or.inr rfl, Or.inr rfl, Or.inr rfl, Or.inr rfl, Or.inl rfl, Or.inr rfl, Or.inl rfl, trivial⟩) ?_
    exact p203_L13_ok d F a0 a1 a2 F (h) (w) (0) _ hp
set_option maxRecDepth 100000 in
set_option maxHeartbeats 4000000 in
theorem p203_w (F : Nat) (h : HS) (w : WF h) (a0 : Int32) (a1 : Int32) (a2 : Int64) (r : Int32 × HS) (hp : p203 F h a0 a1 a2 = some r) : WF r.2 := by
  unfold p203 at hp
  obtain ⟨r1, hr2, hp⟩ := bind_some hp
  try dsimp only at hp
  by_cases hc3 : (r1) = (0 : Int32)
  · rw [if_pos hc3] at hp
    have hp := Option.some.inj hp
    subst hp
    exact (w)
  · rw [if_neg hc3] at hp
    exact p203_L13_w F a0 a1 a2 F (h) (w) (0) _ hp
theorem f204_0 : fetch 204 0 = some (.aload_n 0, 0, 0, 0) := rfl
theorem f204_1 : fetch 204 1 = some (.getfield 287, 12, 14, 0) := rfl
theorem f204_4 : fetch 204 4 = some (.sipush 200, 0, 0, 0) := rfl
theorem f204_7 : fetch 204 7 = some (.if_icmp .ne 5, 12, 0, 0) := rfl
theorem f204_10 : fetch 204 10 = some (.iconst (-1), 0, 0, 0) := rfl
theorem f204_11 : fetch 204 11 = some (.ireturn, 0, 0, 0) := rfl
theorem f204_12 : fetch 204 12 = some (.aload_n 0, 0, 0, 0) := rfl
theorem f204_13 : fetch 204 13 = some (.getfield 34, 12, 15, 2) := rfl
theorem f204_16 : fetch 204 16 = some (.aload_n 0, 0, 0, 0) := rfl
theorem f204_17 : fetch 204 17 = some (.getfield 287, 12, 14, 0) := rfl
theorem f204_20 : fetch 204 20 = some (.aload_n 0, 0, 0, 0) := rfl
theorem f204_21 : fetch 204 21 = some (.getfield 244, 12, 1, 0) := rfl
theorem f204_24 : fetch 204 24 = some (.iastore, 0, 0, 0) := rfl
theorem f204_25 : fetch 204 25 = some (.aload_n 0, 0, 0, 0) := rfl
theorem f204_26 : fetch 204 26 = some (.getfield 37, 12, 16, 2) := rfl
theorem f204_29 : fetch 204 29 = some (.aload_n 0, 0, 0, 0) := rfl
theorem f204_30 : fetch 204 30 = some (.getfield 287, 12, 14, 0) := rfl
theorem f204_33 : fetch 204 33 = some (.ldc_w 290, 0, 0, 100000) := rfl
theorem f204_36 : fetch 204 36 = some (.iastore, 0, 0, 0) := rfl
theorem f204_37 : fetch 204 37 = some (.aload_n 0, 0, 0, 0) := rfl
theorem f204_38 : fetch 204 38 = some (.getfield 40, 12, 17, 2) := rfl
theorem f204_41 : fetch 204 41 = some (.aload_n 0, 0, 0, 0) := rfl
theorem f204_42 : fetch 204 42 = some (.getfield 287, 12, 14, 0) := rfl
theorem f204_45 : fetch 204 45 = some (.ldc_w 290, 0, 0, 100000) := rfl
theorem f204_48 : fetch 204 48 = some (.iastore, 0, 0, 0) := rfl
theorem f204_49 : fetch 204 49 = some (.aload_n 0, 0, 0, 0) := rfl
theorem f204_50 : fetch 204 50 = some (.dup, 0, 0, 0) := rfl
theorem f204_51 : fetch 204 51 = some (.getfield 287, 12, 14, 0) := rfl
theorem f204_54 : fetch 204 54 = some (.iconst 1, 0, 0, 0) := rfl
theorem f204_55 : fetch 204 55 = some (.iadd, 0, 0, 0) := rfl
theorem f204_56 : fetch 204 56 = some (.putfield 287, 12, 14, 0) := rfl
theorem f204_59 : fetch 204 59 = some (.aload_n 0, 0, 0, 0) := rfl
theorem f204_60 : fetch 204 60 = some (.getfield 287, 12, 14, 0) := rfl
theorem f204_63 : fetch 204 63 = some (.iconst 1, 0, 0, 0) := rfl
theorem f204_64 : fetch 204 64 = some (.isub, 0, 0, 0) := rfl
theorem f204_65 : fetch 204 65 = some (.ireturn, 0, 0, 0) := rfl
set_option maxRecDepth 100000 in
set_option maxHeartbeats 4000000 in
theorem p204_ok (d : Nat) (h : HS) (w : WF h) (r : Int32 × HS) (hp : p204 h = some r) : ex (d + 0) 204 (ent 204 [.ref (86)] h) = some (some (.int (r.1)), r.2) := by
  rw [show ent 204 [.ref (86)] h = (0, [some (.ref (86))], [], h) from by  rfl]
  refine ex_weak (ls := [some (.ref (86))]) (le2_ok ⟨Or.inr rfl, trivial⟩) ?_
  unfold p204 at hp
  refine e_aload_n f204_0 rfl ?_
  refine e_getI f204_1 (WF.t w 86 (by decide)) (by decide) ?_
  refine e_sipush (v := 200) f204_4 (by decide) ?_
  by_cases hc1 : (hI (h) (86) 14) = ((200) : Int32)
  · rw [if_pos hc1] at hp
    refine e_icmp_ne_f f204_7 hc1 ?_
    refine e_iconst (v := -1) f204_10 (by decide) ?_
    have hp := Option.some.inj hp
    subst hp
    exact e_ireturn f204_11 (Or.inl rfl)
  · rw [if_neg hc1] at hp
    refine e_icmp_ne_t f204_7 hc1 ?_
    refine e_aload_n f204_12 rfl ?_
    refine e_getR f204_13 (WF.t w 86 (by decide)) rfl (WF.r (q := 95) w 86 15 (by decide)) ?_
    refine e_aload_n f204_16 rfl ?_
    refine e_getI f204_17 (WF.t w 86 (by decide)) (by decide) ?_
    refine e_aload_n f204_20 rfl ?_
    refine e_getI f204_21 (WF.t w 86 (by decide)) (by decide) ?_
    by_cases hg2 : (hI (h) (86) 14) < (0 : Int32) ∨ 200 ≤ (hI (h) (86) 14).toNatClampNeg
    · rw [if_pos hg2] at hp; cases hp
    rw [if_neg hg2] at hp
    refine e_iastore f204_24 (WF.t w 95 (by decide)) (WF.n w 95 (by decide)) hg2 ?_
    refine e_aload_n f204_25 rfl ?_
    refine e_getR f204_26 (WF.t w 86 (by decide)) rfl (WF.r (q := 96) w 86 16 (by decide)) ?_
    refine e_aload_n f204_29 rfl ?_
    refine e_getI f204_30 (WF.t w 86 (by decide)) (by decide) ?_
    refine e_ldcw (v := 100000) f204_33 (by decide) (by decide) ?_
    by_cases hg3 : (hI (hsI (h) (95) (hI (h) (86) 14).toNatClampNeg (hI (h) (86) 1)) (86) 14) < (0 : Int32) ∨ 200 ≤ (hI (hsI (h) (95) (hI (h) (86) 14).toNatClampNeg (hI (h) (86) 1)) (86) 14).toNatClampNeg
    · rw [if_pos hg3] at hp; cases hp
    rw [if_neg hg3] at hp
    refine e_iastore f204_36 (WF.t w 96 (by decide)) (WF.n w 96 (by decide)) hg3 ?_
    obtain ⟨h4, e5, hp⟩ := bind_some hp
    try dsimp only at hp
    have e5 := Option.some.inj e5
    have w6 : WF h4 := e5 ▸ w
    rw [e5]
    refine e_aload_n f204_37 rfl ?_
    refine e_getR f204_38 (WF.t w6 86 (by decide)) rfl (WF.r (q := 97) w6 86 17 (by decide)) ?_
    refine e_aload_n f204_41 rfl ?_
    refine e_getI f204_42 (WF.t w6 86 (by decide)) (by decide) ?_
    refine e_ldcw (v := 100000) f204_45 (by decide) (by decide) ?_
    by_cases hg7 : (hI (h4) (86) 14) < (0 : Int32) ∨ 200 ≤ (hI (h4) (86) 14).toNatClampNeg
    · rw [if_pos hg7] at hp; cases hp
    rw [if_neg hg7] at hp
    refine e_iastore f204_48 (WF.t w6 97 (by decide)) (WF.n w6 97 (by decide)) hg7 ?_
    refine e_aload_n f204_49 rfl ?_
    refine e_dup f204_50 rfl ?_
    refine e_getI f204_51 (WF.t w6 86 (by decide)) (by decide) ?_
    refine e_iconst (v := 1) f204_54 (by decide) ?_
    refine e_iadd f204_55 ?_
    refine e_putI f204_56 (WF.t w6 86 (by decide)) rfl ?_
    obtain ⟨h8, e9, hp⟩ := bind_some hp
    try dsimp only at hp
    have e9 := Option.some.inj e9
    have w10 : WF h8 := e9 ▸ w6
    rw [e9]
    refine e_aload_n f204_59 rfl ?_
    refine e_getI f204_60 (WF.t w10 86 (by decide)) (by decide) ?_
    refine e_iconst (v := 1) f204_63 (by decide) ?_
    refine e_isub f204_64 ?_
    have hp := Option.some.inj hp
    subst hp
    exact e_ireturn f204_65 (Or.inl rfl)
set_option maxRecDepth 100000 in
set_option maxHeartbeats 4000000 in
theorem p204_w (h : HS) (w : WF h) (r : Int32 × HS) (hp : p204 h = some r) : WF r.2 := by
  unfold p204 at hp
  by_cases hc1 : (hI (h) (86) 14) = ((200) : Int32)
  · rw [if_pos hc1] at hp
    have hp := Option.some.inj hp
    subst hp
    exact (w)
  · rw [if_neg hc1] at hp
    by_cases hg2 : (hI (h) (86) 14) < (0 : Int32) ∨ 200 ≤ (hI (h) (86) 14).toNatClampNeg
    · rw [if_pos hg2] at hp; cases hp
    rw [if_neg hg2] at hp
    by_cases hg3 : (hI (hsI (h) (95) (hI (h) (86) 14).toNatClampNeg (hI (h) (86) 1)) (86) 14) < (0 : Int32) ∨ 200 ≤ (hI (hsI (h) (95) (hI (h) (86) 14).toNatClampNeg (hI (h) (86) 1)) (86) 14).toNatClampNeg
    · rw [if_pos hg3] at hp; cases hp
    rw [if_neg hg3] at hp
    obtain ⟨h4, e5, hp⟩ := bind_some hp
    try dsimp only at hp
    have e5 := Option.some.inj e5
    have w6 : WF h4 := e5 ▸ w
    by_cases hg7 : (hI (h4) (86) 14) < (0 : Int32) ∨ 200 ≤ (hI (h4) (86) 14).toNatClampNeg
    · rw [if_pos hg7] at hp; cases hp
    rw [if_neg hg7] at hp
    obtain ⟨h8, e9, hp⟩ := bind_some hp
    try dsimp only at hp
    have e9 := Option.some.inj e9
    have w10 : WF h8 := e9 ▸ w6
    have hp := Option.some.inj hp
    subst hp
    exact (w10)
theorem f205_0 : fetch 205 0 = some (.iload_n 1, 0, 0, 0) := rfl
theorem f205_1 : fetch 205 1 = some (.iconst 0, 0, 0, 0) := rfl
theorem f205_2 : fetch 205 2 = some (.aload_n 0, 0, 0, 0) := rfl
theorem f205_3 : fetch 205 3 = some (.getfield 287, 12, 14, 0) := rfl
theorem f205_6 : fetch 205 6 = some (.iconst 1, 0, 0, 0) := rfl
theorem f205_7 : fetch 205 7 = some (.isub, 0, 0, 0) := rfl
theorem f205_8 : fetch 205 8 = some (.invokestatic 240, 187, 3, 1) := rfl
theorem f205_11 : fetch 205 11 = some (.ireturn, 0, 0, 1) := rfl
set_option maxRecDepth 100000 in
set_option maxHeartbeats 4000000 in
theorem p205_ok (d : Nat) (h : HS) (w : WF h) (a0 : Int32) (r : Int32) (hp : p205 h a0 = some r) : ex (d + 1) 205 (ent 205 [.ref (86), .int (a0)] h) = some (some (.int (r)), h) := by
  rw [show ent 205 [.ref (86), .int (a0)] h = (0, [some (.ref (86)), some (.int (a0))], [], h) from by  rfl]
  refine ex_weak (ls := [some (.ref (86)), some (.int (a0))]) (le2_ok ⟨Or.inr rfl, Or.inr rfl, trivial⟩) ?_
  unfold p205 at hp
  refine e_iload_n f205_0 rfl ?_
  refine e_iconst (v := 0) f205_1 (by decide) ?_
  refine e_aload_n f205_2 rfl ?_
  refine e_getI f205_3 (WF.t w 86 (by decide)) (by decide) ?_
  refine e_iconst (v := 1) f205_6 (by decide) ?_
  refine e_isub f205_7 ?_
  obtain ⟨r1, hr2, hp⟩ := bind_some hp
  try dsimp only at hp
  refine e_callS (st := []) (as := [.int (a0), .int (0), .int ((hI (h) (86) 14) - (1))]) f205_8 (by decide) rfl rfl (Nat.le_of_ble_eq_true rfl) (Nat.le_of_ble_eq_true rfl) (p187_ok d (h) w (a0) (0) ((hI (h) (86) 14) - (1)) r1 hr2) ?_
  show ex _ 205 (11, [some (.ref (86)), some (.int (a0))], [.int (r1)], h) = _
  by_cases hg3 : (r1) = (0 : Int32) ∨ (r1) = (1 : Int32)
  rotate_left
  · rw [if_neg hg3] at hp; cases hp
  rw [if_pos hg3] at hp
  have hp := Option.some.inj hp
  subst hp
  exact e_ireturn f205_11 (Or.inr hg3)
theorem f206_0 : fetch 206 0 = some (.aload_n 0, 0, 0, 0) := rfl
theorem f206_1 : fetch 206 1 = some (.iload_n 1, 0, 0, 0) := rfl
theorem f206_2 : fetch 206 2 = some (.invokevirtual 291, 205, 1, 0) := rfl
theorem f206_5 : fetch 206 5 = some (.ifCond .eq 19, 24, 0, 0) := rfl
theorem f206_8 : fetch 206 8 = some (.aload_n 0, 0, 0, 0) := rfl
theorem f206_9 : fetch 206 9 = some (.getfield 40, 12, 17, 2) := rfl
theorem f206_12 : fetch 206 12 = some (.iload_n 1, 0, 0, 0) := rfl
theorem f206_13 : fetch 206 13 = some (.iaload, 0, 0, 0) := rfl
theorem f206_14 : fetch 206 14 = some (.ldc_w 290, 0, 0, 100000) := rfl
theorem f206_17 : fetch 206 17 = some (.if_icmp .ne 7, 24, 0, 0) := rfl
theorem f206_20 : fetch 206 20 = some (.iconst 1, 0, 0, 0) := rfl
theorem f206_21 : fetch 206 21 = some (.goto 4, 25, 0, 0) := rfl
theorem f206_24 : fetch 206 24 = some (.iconst 0, 0, 0, 0) := rfl
theorem f206_25 : fetch 206 25 = some (.ireturn, 0, 0, 1) := rfl
set_option maxRecDepth 100000 in
set_option maxHeartbeats 4000000 in
theorem p206_ok (d : Nat) (h : HS) (w : WF h) (a0 : Int32) (r : Int32) (hp : p206 h a0 = some r) : ex (d + 2) 206 (ent 206 [.ref (86), .int (a0)] h) = some (some (.int (r)), h) := by
  rw [show ent 206 [.ref (86), .int (a0)] h = (0, [some (.ref (86)), some (.int (a0))], [], h) from by  rfl]
  refine ex_weak (ls := [some (.ref (86)), some (.int (a0))]) (le2_ok ⟨Or.inr rfl, Or.inr rfl, trivial⟩) ?_
  unfold p206 at hp
  refine e_aload_n f206_0 rfl ?_
  refine e_iload_n f206_1 rfl ?_
  obtain ⟨r1, hr2, hp⟩ := bind_some hp
  try dsimp only at hp
  refine e_callV (st := []) (o := 86) (as := [.int (a0)]) f206_2 (by decide) rfl rfl (Nat.le_of_ble_eq_true rfl) (WF.t w 86 (by decide)) (Nat.le_of_ble_eq_true rfl) (p205_ok d (h) w (a0) r1 hr2) ?_
  show ex _ 206 (5, [some (.ref (86)), some (.int (a0))], [.int (r1)], h) = _
  by_cases hc3 : (r1) = (0 : Int32)
  · rw [if_pos hc3] at hp
    refine e_if_eq_t f206_5 hc3 ?_
    refine e_iconst (v := 0) f206_24 (by decide) ?_
    have hp := Option.some.inj hp
    subst hp
    exact e_ireturn f206_25 (by decide)
  · rw [if_neg hc3] at hp
    refine e_if_eq_f f206_5 hc3 ?_
    refine e_aload_n f206_8 rfl ?_
    refine e_getR f206_9 (WF.t w 86 (by decide)) rfl (WF.r (q := 97) w 86 17 (by decide)) ?_
    refine e_iload_n f206_12 rfl ?_
    by_cases hg4 : (a0) < (0 : Int32) ∨ 200 ≤ (a0).toNatClampNeg
    · rw [if_pos hg4] at hp; cases hp
    rw [if_neg hg4] at hp
    refine e_iaload f206_13 (Or.inl (WF.t w 97 (by decide))) (WF.n w 97 (by decide)) hg4 ?_
    refine e_ldcw (v := 100000) f206_14 (by decide) (by decide) ?_
    by_cases hc5 : (hI (h) (97) (a0).toNatClampNeg) = ((100000) : Int32)
    · rw [if_pos hc5] at hp
      refine e_icmp_ne_f f206_17 hc5 ?_
      refine e_iconst (v := 1) f206_20 (by decide) ?_
      refine e_goto f206_21 ?_
      have hp := Option.some.inj hp
      subst hp
      exact e_ireturn f206_25 (by decide)
    · rw [if_neg hc5] at hp
      refine e_icmp_ne_t f206_17 hc5 ?_
      refine e_iconst (v := 0) f206_24 (by decide) ?_
      have hp := Option.some.inj hp
      subst hp
      exact e_ireturn f206_25 (by decide)
theorem f207_0 : fetch 207 0 = some (.aload_n 0, 0, 0, 0) := rfl
theorem f207_1 : fetch 207 1 = some (.getfield 282, 12, 12, 0) := rfl
theorem f207_4 : fetch 207 4 = some (.ifCond .eq 30, 34, 0, 0) := rfl
theorem f207_7 : fetch 207 7 = some (.iload_n 1, 0, 0, 0) := rfl
theorem f207_8 : fetch 207 8 = some (.iconst 0, 0, 0, 0) := rfl
theorem f207_9 : fetch 207 9 = some (.iconst 1, 0, 0, 0) := rfl
theorem f207_10 : fetch 207 10 = some (.invokestatic 240, 187, 3, 1) := rfl
theorem f207_13 : fetch 207 13 = some (.ifCond .eq 21, 34, 0, 0) := rfl
theorem f207_16 : fetch 207 16 = some (.iload_n 1, 0, 0, 0) := rfl
theorem f207_17 : fetch 207 17 = some (.aload_n 0, 0, 0, 0) := rfl
theorem f207_18 : fetch 207 18 = some (.getfield 276, 12, 13, 0) := rfl
theorem f207_21 : fetch 207 21 = some (.if_icmp .ge 13, 34, 0, 0) := rfl
theorem f207_24 : fetch 207 24 = some (.aload_n 0, 0, 0, 0) := rfl
theorem f207_25 : fetch 207 25 = some (.getfield 287, 12, 14, 0) := rfl
theorem f207_28 : fetch 207 28 = some (.sipush 200, 0, 0, 0) := rfl
theorem f207_31 : fetch 207 31 = some (.if_icmp .ne 5, 36, 0, 0) := rfl
theorem f207_34 : fetch 207 34 = some (.iconst (-1), 0, 0, 0) := rfl
theorem f207_35 : fetch 207 35 = some (.ireturn, 0, 0, 0) := rfl
theorem f207_36 : fetch 207 36 = some (.iconst 0, 0, 0, 0) := rfl
theorem f207_37 : fetch 207 37 = some (.istore_n 2, 0, 0, 0) := rfl
theorem f207_38 : fetch 207 38 = some (.iload_n 2, 0, 0, 0) := rfl
theorem f207_39 : fetch 207 39 = some (.aload_n 0, 0, 0, 0) := rfl
theorem f207_40 : fetch 207 40 = some (.getfield 282, 12, 12, 0) := rfl
theorem f207_43 : fetch 207 43 = some (.if_icmp .ge 26, 69, 0, 0) := rfl
theorem f207_46 : fetch 207 46 = some (.aload_n 0, 0, 0, 0) := rfl
theorem f207_47 : fetch 207 47 = some (.getfield 22, 12, 8, 2) := rfl
theorem f207_50 : fetch 207 50 = some (.aload_n 0, 0, 0, 0) := rfl
theorem f207_51 : fetch 207 51 = some (.iload_n 1, 0, 0, 0) := rfl
theorem f207_52 : fetch 207 52 = some (.iload_n 2, 0, 0, 0) := rfl
theorem f207_53 : fetch 207 53 = some (.invokevirtual 294, 202, 2, 0) := rfl
theorem f207_56 : fetch 207 56 = some (.iaload, 0, 0, 0) := rfl
theorem f207_57 : fetch 207 57 = some (.iconst (-1), 0, 0, 0) := rfl
theorem f207_58 : fetch 207 58 = some (.if_icmp .eq 5, 63, 0, 0) := rfl
theorem f207_61 : fetch 207 61 = some (.iconst (-1), 0, 0, 0) := rfl
theorem f207_62 : fetch 207 62 = some (.ireturn, 0, 0, 0) := rfl
theorem f207_63 : fetch 207 63 = some (.iinc 2 1, 0, 0, 0) := rfl
theorem f207_66 : fetch 207 66 = some (.goto (-28), 38, 0, 0) := rfl
theorem f207_69 : fetch 207 69 = some (.aload_n 0, 0, 0, 0) := rfl
theorem f207_70 : fetch 207 70 = some (.invokevirtual 297, 204, 0, 0) := rfl
theorem f207_73 : fetch 207 73 = some (.istore_n 2, 0, 0, 0) := rfl
theorem f207_74 : fetch 207 74 = some (.aload_n 0, 0, 0, 0) := rfl
theorem f207_75 : fetch 207 75 = some (.getfield 43, 12, 18, 2) := rfl
theorem f207_78 : fetch 207 78 = some (.iload_n 2, 0, 0, 0) := rfl
theorem f207_79 : fetch 207 79 = some (.aload_n 0, 0, 0, 0) := rfl
theorem f207_80 : fetch 207 80 = some (.getfield 282, 12, 12, 0) := rfl
theorem f207_83 : fetch 207 83 = some (.iastore, 0, 0, 0) := rfl
theorem f207_84 : fetch 207 84 = some (.iconst 0, 0, 0, 0) := rfl
theorem f207_85 : fetch 207 85 = some (.istore_n 3, 0, 0, 0) := rfl
theorem f207_86 : fetch 207 86 = some (.iload_n 3, 0, 0, 0) := rfl
theorem f207_87 : fetch 207 87 = some (.aload_n 0, 0, 0, 0) := rfl
theorem f207_88 : fetch 207 88 = some (.getfield 282, 12, 12, 0) := rfl
theorem f207_91 : fetch 207 91 = some (.if_icmp .ge 21, 112, 0, 0) := rfl
theorem f207_94 : fetch 207 94 = some (.aload_n 0, 0, 0, 0) := rfl
theorem f207_95 : fetch 207 95 = some (.getfield 22, 12, 8, 2) := rfl
theorem f207_98 : fetch 207 98 = some (.aload_n 0, 0, 0, 0) := rfl
theorem f207_99 : fetch 207 99 = some (.iload_n 1, 0, 0, 0) := rfl
theorem f207_100 : fetch 207 100 = some (.iload_n 3, 0, 0, 0) := rfl
theorem f207_101 : fetch 207 101 = some (.invokevirtual 294, 202, 2, 0) := rfl
theorem f207_104 : fetch 207 104 = some (.iload_n 2, 0, 0, 0) := rfl
theorem f207_105 : fetch 207 105 = some (.iastore, 0, 0, 0) := rfl
theorem f207_106 : fetch 207 106 = some (.iinc 3 1, 0, 0, 0) := rfl
theorem f207_109 : fetch 207 109 = some (.goto (-23), 86, 0, 0) := rfl
theorem f207_112 : fetch 207 112 = some (.iload_n 2, 0, 0, 0) := rfl
theorem f207_113 : fetch 207 113 = some (.ireturn, 0, 0, 0) := rfl
set_option maxRecDepth 100000 in
set_option maxHeartbeats 4000000 in
theorem p207_L86_ok (d : Nat) (F : Nat) (a0 : Int32) : ∀ (n : Nat) (h : HS) (w : WF h) (v2 : Int32) (v3 : Int32) (r : Int32 × HS), p207_L86 F a0 n h v2 v3 = some r → ex (d + 2) 207 (86, [some (.ref (86)), some (.int (a0)), some (.int (v2)), some (.int (v3))], [], h) = some (some (.int (r.1)), r.2) := by
  intro n
  induction n with
  | zero => intro h w v2 v3 r hp; cases hp
  | succ n ih =>
    intro h w v2 v3 r hp
    unfold p207_L86 at hp
    refine e_iload_n f207_86 rfl ?_
    refine e_aload_n f207_87 rfl ?_
    refine e_getI f207_88 (WF.t w 86 (by decide)) (by decide) ?_
    by_cases hc15 : (v3) < ((hI (h) (86) 12) : Int32)
    · rw [if_pos hc15] at hp
      refine e_icmp_ge_f f207_91 hc15 ?_
      refine e_aload_n f207_94 rfl ?_
      refine e_getR f207_95 (WF.t w 86 (by decide)) rfl (WF.r (q := 91) w 86 8 (by decide)) ?_
      refine e_aload_n f207_98 rfl ?_
      refine e_iload_n f207_99 rfl ?_
      refine e_iload_n f207_100 rfl ?_
      obtain ⟨r16, hr17, hp⟩ := bind_some hp
      try dsimp only at hp
      refine e_callV (st := [.ref (91)]) (o := 86) (as := [.int (a0), .int (v3)]) f207_101 (by decide) rfl rfl (Nat.le_of_ble_eq_true rfl) (WF.t w 86 (by decide)) (Nat.le_of_ble_eq_true rfl) (p202_ok d (h) w (a0) (v3) r16 hr17) ?_
      show ex _ 207 (104, [some (.ref (86)), some (.int (a0)), some (.int (v2)), some (.int (v3))], [.int (r16), .ref (91)], h) = _
      refine e_iload_n f207_104 rfl ?_
      by_cases hg18 : (r16) < (0 : Int32) ∨ 200 ≤ (r16).toNatClampNeg
      · rw [if_pos hg18] at hp; cases hp
      rw [if_neg hg18] at hp
      refine e_iastore f207_105 (WF.t w 91 (by decide)) (WF.n w 91 (by decide)) hg18 ?_
      refine e_iinc (ls2 := [some (.ref (86)), some (.int (a0)), some (.int (v2)), some (.int ((v3) + 1))]) f207_106 (by decide) rfl rfl ?_
      refine e_goto f207_109 ?_
      refine ex_weak (ls := [some (.ref (86)), some (.int (a0)), some (.int (v2)), some (.int ((v3) + 1))]) (le2_ok ⟨Or.inr rfl, Or.inr rfl, Or.inr rfl, Or.inr rfl, trivial⟩) ?_
      exact ih (hsI (h) (91) (r16).toNatClampNeg (v2)) (w) (v2) ((v3) + 1) _ hp
    · rw [if_neg hc15] at hp
      refine e_icmp_ge_t f207_91 hc15 ?_
      refine e_iload_n f207_112 rfl ?_
      have hp := Option.some.inj hp
      subst hp
      exact e_ireturn f207_113 (Or.inl rfl)
set_option maxRecDepth 100000 in
set_option maxHeartbeats 4000000 in
theorem p207_L86_w (F : Nat) (a0 : Int32) : ∀ (n : Nat) (h : HS) (w : WF h) (v2 : Int32) (v3 : Int32) (r : Int32 × HS), p207_L86 F a0 n h v2 v3 = some r → WF r.2 := by
  intro n
  induction n with
  | zero => intro h w v2 v3 r hp; cases hp
  | succ n ih =>
    intro h w v2 v3 r hp
    unfold p207_L86 at hp
    by_cases hc15 : (v3) < ((hI (h) (86) 12) : Int32)
    · rw [if_pos hc15] at hp
      obtain ⟨r16, hr17, hp⟩ := bind_some hp
      try dsimp only at hp
      by_cases hg18 : (r16) < (0 : Int32) ∨ 200 ≤ (r16).toNatClampNeg
      · rw [if_pos hg18] at hp; cases hp
      rw [if_neg hg18] at hp
      exact ih (hsI (h) (91) (r16).toNatClampNeg (v2)) (w) (v2) ((v3) + 1) _ hp
    · rw [if_neg hc15] at hp
      have hp := Option.some.inj hp
      subst hp
      exact (w)
set_option maxRecDepth 100000 in
set_option maxHeartbeats 4000000 in
theorem p207_L38_ok (d : Nat) (F : Nat) (a0 : Int32) : ∀ (n : Nat) (h : HS) (w : WF h) (v2 : Int32) (r : Int32 × HS), p207_L38 F a0 n h v2 = some r → ex (d + 2) 207 (38, [some (.ref (86)), some (.int (a0)), some (.int (v2)), none], [], h) = some (some (.int (r.1)), r.2) := by
  intro n
  induction n with
  | zero => intro h w v2 r hp; cases hp
  | succ n ih =>
    intro h w v2 r hp
    unfold p207_L38 at hp
    refine e_iload_n f207_38 rfl ?_
    refine e_aload_n f207_39 rfl ?_
    refine e_getI f207_40 (WF.t w 86 (by decide)) (by decide) ?_
    by_cases hc7 : (v2) < ((hI (h) (86) 12) : Int32)
    · rw [if_pos hc7] at hp
      refine e_icmp_ge_f f207_43 hc7 ?_
      refine e_aload_n f207_46 rfl ?_
      refine e_getR f207_47 (WF.t w 86 (by decide)) rfl (WF.r (q := 91) w 86 8 (by decide)) ?_
      refine e_aload_n f207_50 rfl ?_
      refine e_iload_n f207_51 rfl ?_
      refine e_iload_n f207_52 rfl ?_
      obtain ⟨r8, hr9, hp⟩ := bind_some hp
      try dsimp only at hp
      refine e_callV (st := [.ref (91)]) (o := 86) (as := [.int (a0), .int (v2)]) f207_53 (by decide) rfl rfl (Nat.le_of_ble_eq_true rfl) (WF.t w 86 (by decide)) (Nat.le_of_ble_eq_true rfl) (p202_ok d (h) w (a0) (v2) r8 hr9) ?_
      show ex _ 207 (56, [some (.ref (86)), some (.int (a0)), some (.int (v2)), none], [.int (r8), .ref (91)], h) = _
      by_cases hg10 : (r8) < (0 : Int32) ∨ 200 ≤ (r8).toNatClampNeg
      · rw [if_pos hg10] at hp; cases hp
      rw [if_neg hg10] at hp
      refine e_iaload f207_56 (Or.inl (WF.t w 91 (by decide))) (WF.n w 91 (by decide)) hg10 ?_
      refine e_iconst (v := -1) f207_57 (by decide) ?_
      by_cases hc11 : (hI (h) (91) (r8).toNatClampNeg) = (((-1)) : Int32)
      · rw [if_pos hc11] at hp
        refine e_icmp_eq_t f207_58 hc11 ?_
        refine e_iinc (ls2 := [some (.ref (86)), some (.int (a0)), some (.int ((v2) + 1)), none]) f207_63 (by decide) rfl rfl ?_
        refine e_goto f207_66 ?_
        refine ex_weak (ls := [some (.ref (86)), some (.int (a0)), some (.int ((v2) + 1)), none]) (le2_ok ⟨Or.inr rfl, Or.inr rfl, Or.inr rfl, Or.inl rfl, trivial⟩) ?_
        exact ih (h) (w) ((v2) + 1) _ hp
      · rw [if_neg hc11] at hp
        refine e_icmp_eq_f f207_58 hc11 ?_
        refine e_iconst (v := -1) f207_61 (by decide) ?_
        have hp := Option.some.inj hp
        subst hp
        exact e_ireturn f207_62 (Or.inl rfl)
    · rw [if_neg hc7] at hp
      refine e_icmp_ge_t f207_43 hc7 ?_
      refine e_aload_n f207_69 rfl ?_
      obtain ⟨r12, hr13, hp⟩ := bind_some hp
      try dsimp only at hp
      refine e_callV (st := []) (o := 86) (as := []) f207_70 (by decide) rfl rfl (Nat.le_of_ble_eq_true rfl) (WF.t w 86 (by decide)) (Nat.le_of_ble_eq_true rfl) (p204_ok (d + 1) (h) w r12 hr13) ?_
      show ex _ 207 (73, [some (.ref (86)), some (.int (a0)), some (.int (v2)), none], [.int (r12.1)], r12.2) = _
      refine e_istore_n (ls2 := [some (.ref (86)), some (.int (a0)), some (.int (r12.1)), none]) f207_73 (Nat.le_of_ble_eq_true rfl) rfl ?_
      refine e_aload_n f207_74 rfl ?_
      refine e_getR f207_75 (WF.t (p204_w (h) w  r12 hr13) 86 (by decide)) rfl (WF.r (q := 98) (p204_w (h) w  r12 hr13) 86 18 (by decide)) ?_
      refine e_iload_n f207_78 rfl ?_
      refine e_aload_n f207_79 rfl ?_
      refine e_getI f207_80 (WF.t (p204_w (h) w  r12 hr13) 86 (by decide)) (by decide) ?_
      by_cases hg14 : (r12.1) < (0 : Int32) ∨ 200 ≤ (r12.1).toNatClampNeg
      · rw [if_pos hg14] at hp; cases hp
      rw [if_neg hg14] at hp
      refine e_iastore f207_83 (WF.t (p204_w (h) w  r12 hr13) 98 (by decide)) (WF.n (p204_w (h) w  r12 hr13) 98 (by decide)) hg14 ?_
      refine e_iconst (v := 0) f207_84 (by decide) ?_
      refine e_istore_n (ls2 := [some (.ref (86)), some (.int (a0)), some (.int (r12.1)), some (.int (0))]) f207_85 (Nat.le_of_ble_eq_true rfl) rfl ?_
      refine ex_weak (ls := [some (.ref (86)), some (.int (a0)), some (.int (r12.1)), some (.int (0))]) (le2_ok ⟨Or.inr rfl, Or.inr rfl, Or.inr rfl, Or.inr rfl, trivial⟩) ?_
      exact p207_L86_ok d F a0 F (hsI (r12.2) (98) (r12.1).toNatClampNeg (hI (r12.2) (86) 12)) ((p204_w (h) w  r12 hr13)) (r12.1) (0) _ hp
set_option maxRecDepth 100000 in
set_option maxHeartbeats 4000000 in
theorem p207_L38_w (F : Nat) (a0 : Int32) : ∀ (n : Nat) (h : HS) (w : WF h) (v2 : Int32) (r : Int32 × HS), p207_L38 F a0 n h v2 = some r → WF r.2 := by
  intro n
  induction n with
  | zero => intro h w v2 r hp; cases hp
  | succ n ih =>
    intro h w v2 r hp
    unfold p207_L38 at hp
    by_cases hc7 : (v2) < ((hI (h) (86) 12) : Int32)
    · rw [if_pos hc7] at hp
      obtain ⟨r8, hr9, hp⟩ := bind_some hp
      try dsimp only at hp
      by_cases hg10 : (r8) < (0 : Int32) ∨ 200 ≤ (r8).toNatClampNeg
      · rw [if_pos hg10] at hp; cases hp
      rw [if_neg hg10] at hp
      by_cases hc11 : (hI (h) (91) (r8).toNatClampNeg) = (((-1)) : Int32)
      · rw [if_pos hc11] at hp
        exact ih (h) (w) ((v2) + 1) _ hp
      · rw [if_neg hc11] at hp
        have hp := Option.some.inj hp
        subst hp
        exact (w)
    · rw [if_neg hc7] at hp
      obtain ⟨r12, hr13, hp⟩ := bind_some hp
      try dsimp only at hp
      by_cases hg14 : (r12.1) < (0 : Int32) ∨ 200 ≤ (r12.1).toNatClampNeg
      · rw [if_pos hg14] at hp; cases hp
      rw [if_neg hg14] at hp
      exact p207_L86_w F a0 F (hsI (r12.2) (98) (r12.1).toNatClampNeg (hI (r12.2) (86) 12)) ((p204_w (h) w  r12 hr13)) (r12.1) (0) _ hp
set_option maxRecDepth 100000 in
set_option maxHeartbeats 4000000 in
theorem p207_ok (d : Nat) (F : Nat) (h : HS) (w : WF h) (a0 : Int32) (r : Int32 × HS) (hp : p207 F h a0 = some r) : ex (d + 2) 207 (ent 207 [.ref (86), .int (a0)] h) = some (some (.int (r.1)), r.2) := by
  rw [show ent 207 [.ref (86), .int (a0)] h = (0, [some (.ref (86)), some (.int (a0)), none, none], [], h) from by  rfl]
  refine ex_weak (ls := [some (.ref (86)), some (.int (a0)), none, none]) (le2_ok ⟨Or.inr rfl, Or.inr rfl, Or.inr rfl, Or.inr rfl, trivial⟩) ?_
  unfold p207 at hp
  refine e_aload_n f207_0 rfl ?_
  refine e_getI f207_1 (WF.t w 86 (by decide)) (by decide) ?_
  by_cases hc1 : (hI (h) (86) 12) = (0 : Int32)
  · rw [if_pos hc1] at hp
    refine e_if_eq_t f207_4 hc1 ?_
    refine e_iconst (v := -1) f207_34 (by decide) ?_
    have hp := Option.some.inj hp
    subst hp
    exact e_ireturn f207_35 (Or.inl rfl)
  · rw [if_neg hc1] at hp
    refine e_if_eq_f f207_4 hc1 ?_
    refine e_iload_n f207_7 rfl ?_
    refine e_iconst (v := 0) f207_8 (by decide) ?_
    refine e_iconst (v := 1) f207_9 (by decide) ?_
    obtain ⟨r2, hr3, hp⟩ := bind_some hp
    try dsimp only at hp
    refine e_callS (st := []) (as := [.int (a0), .int (0), .int (1)]) f207_10 (by decide) rfl rfl (Nat.le_of_ble_eq_true rfl) (Nat.le_of_ble_eq_true rfl) (p187_ok (d + 1) (h) w (a0) (0) (1) r2 hr3) ?_
    show ex _ 207 (13, [some (.ref (86)), some (.int (a0)), none, none], [.int (r2)], h) = _
    by_cases hc4 : (r2) = (0 : Int32)
    · rw [if_pos hc4] at hp
      refine e_if_eq_t f207_13 hc4 ?_
      refine e_iconst (v := -1) f207_34 (by decide) ?_
      have hp := Option.some.inj hp
      subst hp
      exact e_ireturn f207_35 (Or.inl rfl)
    · rw [if_neg hc4] at hp
      refine e_if_eq_f f207_13 hc4 ?_
      refine e_iload_n f207_16 rfl ?_
      refine e_aload_n f207_17 rfl ?_
      refine e_getI f207_18 (WF.t w 86 (by decide)) (by decide) ?_
      by_cases hc5 : (a0) < ((hI (h) (86) 13) : Int32)
      · rw [if_pos hc5] at hp
        refine e_icmp_ge_f f207_21 hc5 ?_
        refine e_aload_n f207_24 rfl ?_
        refine e_getI f207_25 (WF.t w 86 (by decide)) (by decide) ?_
        refine e_sipush (v := 200) f207_28 (by decide) ?_
        by_cases hc6 : (hI (h) (86) 14) = ((200) : Int32)
        · rw [if_pos hc6] at hp
          refine e_icmp_ne_f f207_31 hc6 ?_
          refine e_iconst (v := -1) f207_34 (by decide) ?_
          have hp := Option.some.inj hp
          subst hp
          exact e_ireturn f207_35 (Or.inl rfl)
        · rw [if_neg hc6] at hp
          refine e_icmp_ne_t f207_31 hc6 ?_
          refine e_iconst (v := 0) f207_36 (by decide) ?_
          refine e_istore_n (ls2 := [some (.ref (86)), some (.int (a0)), some (.int (0)), none]) f207_37 (Nat.le_of_ble_eq_true rfl) rfl ?_
          refine ex_weak (ls := [some (.ref (86)), some (.int (a0)), some (.int (0)), none]) (le2_ok ⟨Or.inr rfl, Or.inr rfl, Or.inr rfl, Or.inl rfl, trivial⟩) ?_
          exact p207_L38_ok d F a0 F (h) (w) (0) _ hp
      · rw [if_neg hc5] at hp
        refine e_icmp_ge_t f207_21 hc5 ?_
        refine e_iconst (v := -1) f207_34 (by decide) ?_
        have hp := Option.some.inj hp
        subst hp
        exact e_ireturn f207_35 (Or.inl rfl)
set_option maxRecDepth 100000 in
set_option maxHeartbeats 4000000 in
theorem p207_w (F : Nat) (h : HS) (w : WF h) (a0 : Int32) (r : Int32 × HS) (hp : p207 F h a0 = some r) : WF r.2 := by
  unfold p207 at hp
  by_cases hc1 : (hI (h) (86) 12) = (0 : Int32)
  · rw [if_pos hc1] at hp
    have hp := Option.some.inj hp
    subst hp
    exact (w)
  · rw [if_neg hc1] at hp
    obtain ⟨r2, hr3, hp⟩ := bind_some hp
    try dsimp only at hp
    by_cases hc4 : (r2) = (0 : Int32)
    · rw [if_pos hc4] at hp
      have hp := Option.some.inj hp
      subst hp
      exact (w)
    · rw [if_neg hc4] at hp
      by_cases hc5 : (a0) < ((hI (h) (86) 13) : Int32)
      · rw [if_pos hc5] at hp
        by_cases hc6 : (hI (h) (86) 14) = ((200) : Int32)
        · rw [if_pos hc6] at hp
          have hp := Option.some.inj hp
          subst hp
          exact (w)
        · rw [if_neg hc6] at hp
          exact p207_L38_w F a0 F (h) (w) (0) _ hp
      · rw [if_neg hc5] at hp
        have hp := Option.some.inj hp
        subst hp
        exact (w)
theorem f208_0 : fetch 208 0 = some (.aload_n 0, 0, 0, 0) := rfl
theorem f208_1 : fetch 208 1 = some (.iload_n 1, 0, 0, 0) := rfl
theorem f208_2 : fetch 208 2 = some (.invokevirtual 301, 206, 1, 0) := rfl
theorem f208_5 : fetch 208 5 = some (.ifCond .ne 5, 10, 0, 0) := rfl
theorem f208_8 : fetch 208 8 = some (.iconst (-1), 0, 0, 0) := rfl
theorem f208_9 : fetch 208 9 = some (.ireturn, 0, 0, 0) := rfl
theorem f208_10 : fetch 208 10 = some (.aload_n 0, 0, 0, 0) := rfl
theorem f208_11 : fetch 208 11 = some (.getfield 40, 12, 17, 2) := rfl
theorem f208_14 : fetch 208 14 = some (.iload_n 1, 0, 0, 0) := rfl
theorem f208_15 : fetch 208 15 = some (.aload_n 0, 0, 0, 0) := rfl
theorem f208_16 : fetch 208 16 = some (.getfield 244, 12, 1, 0) := rfl
theorem f208_19 : fetch 208 19 = some (.iastore, 0, 0, 0) := rfl
theorem f208_20 : fetch 208 20 = some (.iconst 0, 0, 0, 0) := rfl
theorem f208_21 : fetch 208 21 = some (.istore_n 2, 0, 0, 0) := rfl
theorem f208_22 : fetch 208 22 = some (.iconst 0, 0, 0, 0) := rfl
theorem f208_23 : fetch 208 23 = some (.istore_n 3, 0, 0, 0) := rfl
theorem f208_24 : fetch 208 24 = some (.iload_n 3, 0, 0, 0) := rfl
theorem f208_25 : fetch 208 25 = some (.aload_n 0, 0, 0, 0) := rfl
theorem f208_26 : fetch 208 26 = some (.getfield 250, 12, 3, 0) := rfl
theorem f208_29 : fetch 208 29 = some (.if_icmp .ge 29, 58, 0, 0) := rfl
theorem f208_32 : fetch 208 32 = some (.aload_n 0, 0, 0, 0) := rfl
theorem f208_33 : fetch 208 33 = some (.getfield 22, 12, 8, 2) := rfl
theorem f208_36 : fetch 208 36 = some (.iload_n 3, 0, 0, 0) := rfl
theorem f208_37 : fetch 208 37 = some (.iaload, 0, 0, 0) := rfl
theorem f208_38 : fetch 208 38 = some (.iload_n 1, 0, 0, 0) := rfl
theorem f208_39 : fetch 208 39 = some (.if_icmp .ne 13, 52, 0, 0) := rfl
theorem f208_42 : fetch 208 42 = some (.aload_n 0, 0, 0, 0) := rfl
theorem f208_43 : fetch 208 43 = some (.getfield 22, 12, 8, 2) := rfl
theorem f208_46 : fetch 208 46 = some (.iload_n 3, 0, 0, 0) := rfl
theorem f208_47 : fetch 208 47 = some (.iconst (-1), 0, 0, 0) := rfl
theorem f208_48 : fetch 208 48 = some (.iastore, 0, 0, 0) := rfl
theorem f208_49 : fetch 208 49 = some (.iinc 2 1, 0, 0, 0) := rfl
theorem f208_52 : fetch 208 52 = some (.iinc 3 1, 0, 0, 0) := rfl
theorem f208_55 : fetch 208 55 = some (.goto (-31), 24, 0, 0) := rfl
theorem f208_58 : fetch 208 58 = some (.iconst 0, 0, 0, 0) := rfl
theorem f208_59 : fetch 208 59 = some (.istore_n 3, 0, 0, 0) := rfl
theorem f208_60 : fetch 208 60 = some (.iload_n 3, 0, 0, 0) := rfl
theorem f208_61 : fetch 208 61 = some (.aload_n 0, 0, 0, 0) := rfl
theorem f208_62 : fetch 208 62 = some (.getfield 304, 12, 32, 0) := rfl
theorem f208_65 : fetch 208 65 = some (.if_icmp .ge 50, 115, 0, 0) := rfl
theorem f208_68 : fetch 208 68 = some (.aload_n 0, 0, 0, 0) := rfl
theorem f208_69 : fetch 208 69 = some (.getfield 106, 12, 44, 2) := rfl
theorem f208_72 : fetch 208 72 = some (.iload_n 3, 0, 0, 0) := rfl
theorem f208_73 : fetch 208 73 = some (.aload_n 0, 0, 0, 0) := rfl
theorem f208_74 : fetch 208 74 = some (.getfield 82, 12, 36, 2) := rfl
theorem f208_77 : fetch 208 77 = some (.iload_n 3, 0, 0, 0) := rfl
theorem f208_78 : fetch 208 78 = some (.iaload, 0, 0, 0) := rfl
theorem f208_79 : fetch 208 79 = some (.iload_n 1, 0, 0, 0) := rfl
theorem f208_80 : fetch 208 80 = some (.if_icmp .ne 22, 102, 0, 0) := rfl
theorem f208_83 : fetch 208 83 = some (.aload_n 0, 0, 0, 0) := rfl
theorem f208_84 : fetch 208 84 = some (.getfield 106, 12, 44, 2) := rfl
theorem f208_87 : fetch 208 87 = some (.iload_n 3, 0, 0, 0) := rfl
theorem f208_88 : fetch 208 88 = some (.iaload, 0, 0, 0) := rfl
theorem f208_89 : fetch 208 89 = some (.ldc_w 290, 0, 0, 100000) := rfl
theorem f208_92 : fetch 208 92 = some (.if_icmp .ne 10, 102, 0, 0) := rfl
theorem f208_95 : fetch 208 95 = some (.aload_n 0, 0, 0, 0) := rfl
theorem f208_96 : fetch 208 96 = some (.getfield 244, 12, 1, 0) := rfl
theorem f208_99 : fetch 208 99 = some (.goto 9, 108, 0, 0) := rfl
theorem f208_102 : fetch 208 102 = some (.aload_n 0, 0, 0, 0) := rfl
theorem f208_103 : fetch 208 103 = some (.getfield 106, 12, 44, 2) := rfl
theorem f208_106 : fetch 208 106 = some (.iload_n 3, 0, 0, 0) := rfl
theorem f208_107 : fetch 208 107 = some (.iaload, 0, 0, 0) := rfl
theorem f208_108 : fetch 208 108 = some (.iastore, 0, 0, 0) := rfl
theorem f208_109 : fetch 208 109 = some (.iinc 3 1, 0, 0, 0) := rfl
theorem f208_112 : fetch 208 112 = some (.goto (-52), 60, 0, 0) := rfl
theorem f208_115 : fetch 208 115 = some (.iconst 0, 0, 0, 0) := rfl
theorem f208_116 : fetch 208 116 = some (.istore_n 3, 0, 0, 0) := rfl
theorem f208_117 : fetch 208 117 = some (.iload_n 3, 0, 0, 0) := rfl
theorem f208_118 : fetch 208 118 = some (.aload_n 0, 0, 0, 0) := rfl
theorem f208_119 : fetch 208 119 = some (.getfield 307, 12, 33, 0) := rfl
theorem f208_122 : fetch 208 122 = some (.if_icmp .ge 50, 172, 0, 0) := rfl
theorem f208_125 : fetch 208 125 = some (.aload_n 0, 0, 0, 0) := rfl
theorem f208_126 : fetch 208 126 = some (.getfield 121, 12, 49, 2) := rfl
theorem f208_129 : fetch 208 129 = some (.iload_n 3, 0, 0, 0) := rfl
theorem f208_130 : fetch 208 130 = some (.aload_n 0, 0, 0, 0) := rfl
theorem f208_131 : fetch 208 131 = some (.getfield 109, 12, 45, 2) := rfl
theorem f208_134 : fetch 208 134 = some (.iload_n 3, 0, 0, 0) := rfl
theorem f208_135 : fetch 208 135 = some (.iaload, 0, 0, 0) := rfl
theorem f208_136 : fetch 208 136 = some (.iload_n 1, 0, 0, 0) := rfl
theorem f208_137 : fetch 208 137 = some (.if_icmp .ne 22, 159, 0, 0) := rfl
theorem f208_140 : fetch 208 140 = some (.aload_n 0, 0, 0, 0) := rfl
theorem f208_141 : fetch 208 141 = some (.getfield 121, 12, 49, 2) := rfl
theorem f208_144 : fetch 208 144 = some (.iload_n 3, 0, 0, 0) := rfl
theorem f208_145 : fetch 208 145 = some (.iaload, 0, 0, 0) := rfl
theorem f208_146 : fetch 208 146 = some (.ldc_w 290, 0, 0, 100000) := rfl
theorem f208_149 : fetch 208 149 = some (.if_icmp .ne 10, 159, 0, 0) := rfl
theorem f208_152 : fetch 208 152 = some (.aload_n 0, 0, 0, 0) := rfl
theorem f208_153 : fetch 208 153 = some (.getfield 244, 12, 1, 0) := rfl
theorem f208_156 : fetch 208 156 = some (.goto 9, 165, 0, 0) := rfl
theorem f208_159 : fetch 208 159 = some (.aload_n 0, 0, 0, 0) := rfl
theorem f208_160 : fetch 208 160 = some (.getfield 121, 12, 49, 2) := rfl
theorem f208_163 : fetch 208 163 = some (.iload_n 3, 0, 0, 0) := rfl
theorem f208_164 : fetch 208 164 = some (.iaload, 0, 0, 0) := rfl
theorem f208_165 : fetch 208 165 = some (.iastore, 0, 0, 0) := rfl
theorem f208_166 : fetch 208 166 = some (.iinc 3 1, 0, 0, 0) := rfl
theorem f208_169 : fetch 208 169 = some (.goto (-52), 117, 0, 0) := rfl
theorem f208_172 : fetch 208 172 = some (.iload_n 2, 0, 0, 0) := rfl
theorem f208_173 : fetch 208 173 = some (.ireturn, 0, 0, 0) := rfl
set_option maxRecDepth 100000 in
set_option maxHeartbeats 4000000 in
theorem p208_j108_ok (d : Nat) (F : Nat) (a0 : Int32) (K60 : HS → Int32 → Int32 → Option (Int32 × HS)) (hK60 : ∀ (h : HS) (w : WF h) (u2 : Int32) (u3 : Int32) (r : Int32 × HS), K60 h u2 u3 = some r → ex (d + 3) 208 (60, [some (.ref (86)), some (.int (a0)), some (.int (u2)), some (.int (u3))], [], h) = some (some (.int (r.1)), r.2)) (h : HS) (w : WF h) (v2 : Int32) (v3 : Int32) (s0 : Int32) (s1 : Int32) (r : Int32 × HS) (hp : p208_j108 F a0 K60 h v2 v3 s0 s1 = some r) : ex (d + 3) 208 (108, [some (.ref (86)), some (.int (a0)), some (.int (v2)), some (.int (v3))], [.int (s0), .int (s1), .ref (119)], h) = some (some (.int (r.1)), r.2) := by
  unfold p208_j108 at hp
  by_cases hg14 : (s1) < (0 : Int32) ∨ 200 ≤ (s1).toNatClampNeg
  · rw [if_pos hg14] at hp; cases hp
  rw [if_neg hg14] at hp
  refine e_iastore f208_108 (WF.t w 119 (by decide)) (WF.n w 119 (by decide)) hg14 ?_
  refine e_iinc (ls2 := [some (.ref (86)), some (.int (a0)), some (.int (v2)), some (.int ((v3) + 1))]) f208_109 (by decide) rfl rfl ?_
  refine e_goto f208_112 ?_
  refine ex_weak (ls := [some (.ref (86)), some (.int (a0)), some (.int (v2)), some (.int ((v3) + 1))]) (le2_ok ⟨Or.inr rfl, Or.inr rfl, Or.inr rfl, Or.inr rfl, trivial⟩) ?_
  exact hK60 (hsI (h) (119) (s1).toNatClampNeg (s0)) (w) (v2) ((v3) + 1) _ hp
set_option maxRecDepth 100000 in
set_option maxHeartbeats 4000000 in
theorem p208_j108_w (F : Nat) (a0 : Int32) (K60 : HS → Int32 → Int32 → Option (Int32 × HS)) (hK60 : ∀ (h : HS) (w : WF h) (u2 : Int32) (u3 : Int32) (r : Int32 × HS), K60 h u2 u3 = some r → WF r.2) (h : HS) (w : WF h) (v2 : Int32) (v3 : Int32) (s0 : Int32) (s1 : Int32) (r : Int32 × HS) (hp : p208_j108 F a0 K60 h v2 v3 s0 s1 = some r) : WF r.2 := by
  unfold p208_j108 at hp
  by_cases hg14 : (s1) < (0 : Int32) ∨ 200 ≤ (s1).toNatClampNeg
  · rw [if_pos hg14] at hp; cases hp
  rw [if_neg hg14] at hp
  exact hK60 (hsI (h) (119) (s1).toNatClampNeg (s0)) (w) (v2) ((v3) + 1) _ hp
set_option maxRecDepth 100000 in
set_option maxHeartbeats 4000000 in
theorem p208_j165_ok (d : Nat) (F : Nat) (a0 : Int32) (K117 : HS → Int32 → Int32 → Option (Int32 × HS)) (hK117 : ∀ (h : HS) (w : WF h) (u2 : Int32) (u3 : Int32) (r : Int32 × HS), K117 h u2 u3 = some r → ex (d + 3) 208 (117, [some (.ref (86)), some (.int (a0)), some (.int (u2)), some (.int (u3))], [], h) = some (some (.int (r.1)), r.2)) (h : HS) (w : WF h) (v2 : Int32) (v3 : Int32) (s0 : Int32) (s1 : Int32) (r : Int32 × HS) (hp : p208_j165 F a0 K117 h v2 v3 s0 s1 = some r) : ex (d + 3) 208 (165, [some (.ref (86)), some (.int (a0)), some (.int (v2)), some (.int (v3))], [.int (s0), .int (s1), .ref (124)], h) = some (some (.int (r.1)), r.2) := by
  unfold p208_j165 at hp
  by_cases hg21 : (s1) < (0 : Int32) ∨ 200 ≤ (s1).toNatClampNeg
  · rw [if_pos hg21] at hp; cases hp
  rw [if_neg hg21] at hp
  refine e_iastore f208_165 (WF.t w 124 (by decide)) (WF.n w 124 (by decide)) hg21 ?_
  refine e_iinc (ls2 := [some (.ref (86)), some (.int (a0)), some (.int (v2)), some (.int ((v3) + 1))]) f208_166 (by decide) rfl rfl ?_
  refine e_goto f208_169 ?_
  refine ex_weak (ls := [some (.ref (86)), some (.int (a0)), some (.int (v2)), some (.int ((v3) + 1))]) (le2_ok ⟨Or.inr rfl, Or.inr rfl, Or.inr rfl, Or.inr rfl, trivial⟩) ?_
  exact hK117 (hsI (h) (124) (s1).toNatClampNeg (s0)) (w) (v2) ((v3) + 1) _ hp
set_option maxRecDepth 100000 in
set_option maxHeartbeats 4000000 in
theorem p208_j165_w (F : Nat) (a0 : Int32) (K117 : HS → Int32 → Int32 → Option (Int32 × HS)) (hK117 : ∀ (h : HS) (w : WF h) (u2 : Int32) (u3 : Int32) (r : Int32 × HS), K117 h u2 u3 = some r → WF r.2) (h : HS) (w : WF h) (v2 : Int32) (v3 : Int32) (s0 : Int32) (s1 : Int32) (r : Int32 × HS) (hp : p208_j165 F a0 K117 h v2 v3 s0 s1 = some r) : WF r.2 := by
  unfold p208_j165 at hp
  by_cases hg21 : (s1) < (0 : Int32) ∨ 200 ≤ (s1).toNatClampNeg
  · rw [if_pos hg21] at hp; cases hp
  rw [if_neg hg21] at hp
  exact hK117 (hsI (h) (124) (s1).toNatClampNeg (s0)) (w) (v2) ((v3) + 1) _ hp
set_option maxRecDepth 100000 in
set_option maxHeartbeats 4000000 in
theorem p208_j52_ok (d : Nat) (F : Nat) (a0 : Int32) (K24 : HS → Int32 → Int32 → Option (Int32 × HS)) (hK24 : ∀ (h : HS) (w : WF h) (u2 : Int32) (u3 : Int32) (r : Int32 × HS), K24 h u2 u3 = some r → ex (d + 3) 208 (24, [some (.ref (86)), some (.int (a0)), some (.int (u2)), some (.int (u3))], [], h) = some (some (.int (r.1)), r.2)) (h : HS) (w : WF h) (v2 : Int32) (v3 : Int32) (r : Int32 × HS) (hp : p208_j52 F a0 K24 h v2 v3 = some r) : ex (d + 3) 208 (52, [some (.ref (86)), some (.int (a0)), some (.int (v2)), some (.int (v3))], [], h) = some (some (.int (r.1)), r.2) := by
  unfold p208_j52 at hp
  refine e_iinc (ls2 := [some (.ref (86)), some (.int (a0)), some (.int (v2)), some (.int ((v3) + 1))]) f208_52 (by decide) rfl rfl ?_
  refine e_goto f208_55 ?_
  refine ex_weak (ls := [some (.ref (86)), some (.int (a0)), some (.int (v2)), some (.int ((v3) + 1))]) (le2_ok ⟨Or.inr rfl, Or.inr rfl, Or.inr rfl, Or.inr rfl, trivial⟩) ?_
  exact hK24 (h) (w) (v2) ((v3) + 1) _ hp
set_option maxRecDepth 100000 in
set_option maxHeartbeats 4000000 in
theorem p208_j52_w (F : Nat) (a0 : Int32) (K24 : HS → Int32 → Int32 → Option (Int32 × HS)) (hK24 : ∀ (h : HS) (w : WF h) (u2 : Int32) (u3 : Int32) (r : Int32 × HS), K24 h u2 u3 = some r → WF r.2) (h : HS) (w : WF h) (v2 : Int32) (v3 : Int32) (r : Int32 × HS) (hp : p208_j52 F a0 K24 h v2 v3 = some r) : WF r.2 := by
  unfold p208_j52 at hp
  exact hK24 (h) (w) (v2) ((v3) + 1) _ hp
set_option maxRecDepth 100000 in
set_option maxHeartbeats 4000000 in
theorem p208_j102_ok (d : Nat) (F : Nat) (a0 : Int32) (K60 : HS → Int32 → Int32 → Option (Int32 × HS)) (hK60 : ∀ (h : HS) (w : WF h) (u2 : Int32) (u3 : Int32) (r : Int32 × HS), K60 h u2 u3 = some r → ex (d + 3) 208 (60, [some (.ref (86)), some (.int (a0)), some (.int (u2)), some (.int (u3))], [], h) = some (some (.int (r.1)), r.2)) (h : HS) (w : WF h) (v2 : Int32) (v3 : Int32) (s0 : Int32) (r : Int32 × HS) (hp : p208_j102 F a0 K60 h v2 v3 s0 = some r) : ex (d + 3) 208 (102, [some (.ref (86)), some (.int (a0)), some (.int (v2)), some (.int (v3))], [.int (s0), .ref (119)], h) = some (some (.int (r.1)), r.2) := by
  unfold p208_j102 at hp
  refine e_aload_n f208_102 rfl ?_
  refine e_getR f208_103 (WF.t w 86 (by decide)) rfl (WF.r (q := 119) w 86 44 (by decide)) ?_
  refine e_iload_n f208_106 rfl ?_
  by_cases hg15 : (v3) < (0 : Int32) ∨ 200 ≤ (v3).toNatClampNeg
  · rw [if_pos hg15] at hp; cases hp
  rw [if_neg hg15] at hp
  refine e_iaload f208_107 (Or.inl (WF.t w 119 (by decide))) (WF.n w 119 (by decide)) hg15 ?_
  refine ex_weak (ls := [some (.ref (86)), some (.int (a0)), some (.int (v2)), some (.int (v3))]) (le2_ok ⟨Or.inr rfl, Or.inr rfl, Or.inr rfl, Or.inr rfl, trivial⟩) ?_
  exact p208_j108_ok d F a0 (K60) (hK60) (h) (w) (v2) (v3) (hI (h) (119) (v3).toNatClampNeg) (s0) _ hp
set_option maxRecDepth 100000 in
set_option maxHeartbeats 4000000 in
theorem p208_j102_w (F : Nat) (a0 : Int32) (K60 : HS → Int32 → Int32 → Option (Int32 × HS)) (hK60 : ∀ (h : HS) (w : WF h) (u2 : Int32) (u3 : Int32) (r : Int32 × HS), K60 h u2 u3 = some r → WF r.2) (h : HS) (w : WF h) (v2 : Int32) (v3 : Int32) (s0 : Int32) (r : Int32 × HS) (hp : p208_j102 F a0 K60 h v2 v3 s0 = some r) : WF r.2 := by
  unfold p208_j102 at hp
  by_cases hg15 : (v3) < (0 : Int32) ∨ 200 ≤ (v3).toNatClampNeg
  · rw [if_pos hg15] at hp; cases hp
  rw [if_neg hg15] at hp
  exact p208_j108_w F a0 (K60) (hK60) (h) (w) (v2) (v3) (hI (h) (119) (v3).toNatClampNeg) (s0) _ hp
set_option maxRecDepth 100000 in
set_option maxHeartbeats 4000000 in
theorem p208_j159_ok (d : Nat) (F : Nat) (a0 : Int32) (K117 : HS → Int32 → Int32 → Option (Int32 × HS)) (hK117 : ∀ (h : HS) (w : WF h) (u2 : Int32) (u3 : Int32) (r : Int32 × HS), K117 h u2 u3 = some r → ex (d + 3) 208 (117, [some (.ref (86)), some (.int (a0)), some (.int (u2)), some (.int (u3))], [], h) = some (some (.int (r.1)), r.2)) (h : HS) (w : WF h) (v2 : Int32) (v3 : Int32) (s0 : Int32) (r : Int32 × HS) (hp : p208_j159 F a0 K117 h v2 v3 s0 = some r) : ex (d + 3) 208 (159, [some (.ref (86)), some (.int (a0)), some (.int (v2)), some (.int (v3))], [.int (s0), .ref (124)], h) = some (some (.int (r.1)), r.2) := by
  unfold p208_j159 at hp
  refine e_aload_n f208_159 rfl ?_
  refine e_getR f208_160 (WF.t w 86 (by decide)) rfl (WF.r (q := 124) w 86 49 (by decide)) ?_
  refine e_iload_n f208_163 rfl ?_
  by_cases hg22 : (v3) < (0 : Int32) ∨ 200 ≤ (v3).toNatClampNeg
  · rw [if_pos hg22] at hp; cases hp
  rw [if_neg hg22] at hp
  refine e_iaload f208_164 (Or.inl (WF.t w 124 (by decide))) (WF.n w 124 (by decide)) hg22 ?_
  refine ex_weak (ls := [some (.ref (86)), some (.int (a0)), some (.int (v2)), some (.int (v3))]) (le2_ok ⟨Or.inr rfl, Or.inr rfl, Or.inr rfl, Or.inr rfl, trivial⟩) ?_
  exact p208_j165_ok d F a0 (K117) (hK117) (h) (w) (v2) (v3) (hI (h) (124) (v3).toNatClampNeg) (s0) _ hp
set_option maxRecDepth 100000 in
set_option maxHeartbeats 4000000 in
theorem p208_j159_w (F : Nat) (a0 : Int32) (K117 : HS → Int32 → Int32 → Option (Int32 × HS)) (hK117 : ∀ (h : HS) (w : WF h) (u2 : Int32) (u3 : Int32) (r : Int32 × HS), K117 h u2 u3 = some r → WF r.2) (h : HS) (w : WF h) (v2 : Int32) (v3 : Int32) (s0 : Int32) (r : Int32 × HS) (hp : p208_j159 F a0 K117 h v2 v3 s0 = some r) : WF r.2 := by
  unfold p208_j159 at hp
  by_cases hg22 : (v3) < (0 : Int32) ∨ 200 ≤ (v3).toNatClampNeg
  · rw [if_pos hg22] at hp; cases hp
  rw [if_neg hg22] at hp
  exact p208_j165_w F a0 (K117) (hK117) (h) (w) (v2) (v3) (hI (h) (124) (v3).toNatClampNeg) (s0) _ hp
set_option maxRecDepth 100000 in
set_option maxHeartbeats 4000000 in
theorem p208_L117_ok (d : Nat) (F : Nat) (a0 : Int32) : ∀ (n : Nat) (h : HS) (w : WF h) (v2 : Int32) (v3 : Int32) (r : Int32 × HS), p208_L117 F a0 n h v2 v3 = some r → ex (d + 3) 208 (117, [some (.ref (86)), some (.int (a0)), some (.int (v2)), some (.int (v3))], [], h) = some (some (.int (r.1)), r.2) := by
  intro n
  induction n with
  | zero => intro h w v2 v3 r hp; cases hp
  | succ n ih =>
    intro h w v2 v3 r hp
    unfold p208_L117 at hp
    refine e_iload_n f208_117 rfl ?_
    refine e_aload_n f208_118 rfl ?_
    refine e_getI f208_119 (WF.t w 86 (by decide)) (by decide) ?_
    by_cases hc16 : (v3) < ((hI (h) (86) 33) : Int32)
    · rw [if_pos hc16] at hp
      refine e_icmp_ge_f f208_122 hc16 ?_
      refine e_aload_n f208_125 rfl ?_
      refine e_getR f208_126 (WF.t w 86 (by decide)) rfl (WF.r (q := 124) w 86 49 (by decide)) ?_
      refine e_iload_n f208_129 rfl ?_
      refine e_aload_n f208_130 rfl ?_
      refine e_getR f208_131 (WF.t w 86 (by decide)) rfl (WF.r (q := 120) w 86 45 (by decide)) ?_
      refine e_iload_n f208_134 rfl ?_
      by_cases hg17 : (v3) < (0 : Int32) ∨ 200 ≤ (v3).toNatClampNeg
      · rw [if_pos hg17] at hp; cases hp
      rw [if_neg hg17] at hp
      refine e_iaload f208_135 (Or.inl (WF.t w 120 (by decide))) (WF.n w 120 (by decide)) hg17 ?_
      refine e_iload_n f208_136 rfl ?_
      by_cases hc18 : (hI (h) (120) (v3).toNatClampNeg) = ((a0) : Int32)
      · rw [if_pos hc18] at hp
        refine e_icmp_ne_f f208_137 hc18 ?_
        refine e_aload_n f208_140 rfl ?_
        refine e_getR f208_141 (WF.t w 86 (by decide)) rfl (WF.r (q := 124) w 86 49 (by decide)) ?_
        refine e_iload_n f208_144 rfl ?_
        by_cases hg19 : (v3) < (0 : Int32) ∨ 200 ≤ (v3).toNatClampNeg
        · rw [if_pos hg19] at hp; cases hp
        rw [if_neg hg19] at hp
        refine e_iaload f208_145 (Or.inl (WF.t w 124 (by decide))) (WF.n w 124 (by decide)) hg19 ?_
        refine e_ldcw (v := 100000) f208_146 (by decide) (by decide) ?_
        by_cases hc20 : (hI (h) (124) (v3).toNatClampNeg) = ((100000) : Int32)
        · rw [if_pos hc20] at hp
          refine e_icmp_ne_f f208_149 hc20 ?_
          refine e_aload_n f208_152 rfl ?_
          refine e_getI f208_153 (WF.t w 86 (by decide)) (by decide) ?_
          refine e_goto f208_156 ?_
          refine ex_weak (ls := [some (.ref (86)), some (.int (a0)), some (.int (v2)), some (.int (v3))]) (le2_ok ⟨Or.inr rfl, Or.inr rfl, Or.inr rfl, Or.inr rfl, trivial⟩) ?_
          exact p208_j165_ok d F a0 ((p208_L117 F a0 n)) (ih) (h) (w) (v2) (v3) (hI (h) (86) 1) (v3) _ hp
        · rw [if_neg hc20] at hp
          refine e_icmp_ne_t f208_149 hc20 ?_
          refine ex_weak (ls := [some (.ref (86)), some (.int (a0)), some (.int (v2)), some (.int (v3))]) (le2_ok ⟨Or.inr rfl, Or.inr rfl, Or.inr rfl, Or.inr rfl, trivial⟩) ?_
          exact p208_j159_ok d F a0 ((p208_L117 F a0 n)) (ih) (h) (w) (v2) (v3) (v3) _ hp
      · rw [if_neg hc18] at hp
        refine e_icmp_ne_t f208_137 hc18 ?_
        refine ex_weak (ls := [some (.ref (86)), some (.int (a0)), some (.int (v2)), some (.int (v3))]) (le2_ok ⟨Or.inr rfl, Or.inr rfl, Or.inr rfl, Or.inr rfl, trivial⟩) ?_
        exact p208_j159_ok d F a0 ((p208_L117 F a0 n)) (ih) (h) (w) (v2) (v3) (v3) _ hp
    · rw [if_neg hc16] at hp
      refine e_icmp_ge_t f208_122 hc16 ?_
      refine e_iload_n f208_172 rfl ?_
      have hp := Option.some.inj hp
      subst hp
      exact e_ireturn f208_173 (Or.inl rfl)
set_option maxRecDepth 100000 in
set_option maxHeartbeats 4000000 in
theorem p208_L117_w (F : Nat) (a0 : Int32) : ∀ (n : Nat) (h : HS) (w : WF h) (v2 : Int32) (v3 : Int32) (r : Int32 × HS), p208_L117 F a0 n h v2 v3 = some r → WF r.2 := by
  intro n
  induction n with
  | zero => intro h w v2 v3 r hp; cases hp
  | succ n ih =>
    intro h w v2 v3 r hp
    unfold p208_L117 at hp
    by_cases hc16 : (v3) < ((hI (h) (86) 33) : Int32)
    · rw [if_pos hc16] at hp
      by_cases hg17 : (v3) < (0 : Int32) ∨ 200 ≤ (v3).toNatClampNeg
      · rw [if_pos hg17] at hp; cases hp
      rw [if_neg hg17] at hp
      by_cases hc18 : (hI (h) (120) (v3).toNatClampNeg) = ((a0) : Int32)
      · rw [if_pos hc18] at hp
        by_cases hg19 : (v3) < (0 : Int32) ∨ 200 ≤ (v3).toNatClampNeg
        · rw [if_pos hg19] at hp; cases hp
        rw [if_neg hg19] at hp
        by_cases hc20 : (hI (h) (124) (v3).toNatClampNeg) = ((100000) : Int32)
        · rw [if_pos hc20] at hp
          exact p208_j165_w F a0 ((p208_L117 F a0 n)) (ih) (h) (w) (v2) (v3) (hI (h) (86) 1) (v3) _ hp
        · rw [if_neg hc20] at hp
          exact p208_j159_w F a0 ((p208_L117 F a0 n)) (ih) (h) (w) (v2) (v3) (v3) _ hp
      · rw [if_neg hc18] at hp
        exact p208_j159_w F a0 ((p208_L117 F a0 n)) (ih) (h) (w) (v2) (v3) (v3) _ hp
    · rw [if_neg hc16] at hp
      have hp := Option.some.inj hp
      subst hp
      exact (w)
set_option maxRecDepth 100000 in
set_option maxHeartbeats 4000000 in
theorem p208_L60_ok (d : Nat) (F : Nat) (a0 : Int32) : ∀ (n : Nat) (h : HS) (w : WF h) (v2 : Int32) (v3 : Int32) (r : Int32 × HS), p208_L60 F a0 n h v2 v3 = some r → ex (d + 3) 208 (60, [some (.ref (86)), some (.int (a0)), some (.int (v2)), some (.int (v3))], [], h) = some (some (.int (r.1)), r.2) := by
  intro n
  induction n with
  | zero => intro h w v2 v3 r hp; cases hp
  | succ n ih =>
    intro h w v2 v3 r hp
    unfold p208_L60 at hp
    refine e_iload_n f208_60 rfl ?_
    refine e_aload_n f208_61 rfl ?_
    refine e_getI f208_62 (WF.t w 86 (by decide)) (by decide) ?_
    by_cases hc9 : (v3) < ((hI (h) (86) 32) : Int32)
    · rw [if_pos hc9] at hp
      refine e_icmp_ge_f f208_65 hc9 ?_
      refine e_aload_n f208_68 rfl ?_
      refine e_getR f208_69 (WF.t w 86 (by decide)) rfl (WF.r (q := 119) w 86 44 (by decide)) ?_
      refine e_iload_n f208_72 rfl ?_
      refine e_aload_n f208_73 rfl ?_
      refine e_getR f208_74 (WF.t w 86 (by decide)) rfl (WF.r (q := 111) w 86 36 (by decide)) ?_
      refine e_iload_n f208_77 rfl ?_
      by_cases hg10 : (v3) < (0 : Int32) ∨ 200 ≤ (v3).toNatClampNeg
      · rw [if_pos hg10] at hp; cases hp
      rw [if_neg hg10] at hp
      refine e_iaload f208_78 (Or.inl (WF.t w 111 (by decide))) (WF.n w 111 (by decide)) hg10 ?_
      refine e_iload_n f208_79 rfl ?_
      by_cases hc11 : (hI (h) (111) (v3).toNatClampNeg) = ((a0) : Int32)
      · rw [if_pos hc11] at hp
        refine e_icmp_ne_f f208_80 hc11 ?_
        refine e_aload_n f208_83 rfl ?_
        refine e_getR f208_84 (WF.t w 86 (by decide)) rfl (WF.r (q := 119) w 86 44 (by decide)) ?_
        refine e_iload_n f208_87 rfl ?_
        by_cases hg12 : (v3) < (0 : Int32) ∨ 200 ≤ (v3).toNatClampNeg
        · rw [if_pos hg12] at hp; cases hp
        rw [if_neg hg12] at hp
        refine e_iaload f208_88 (Or.inl (WF.t w 119 (by decide))) (WF.n w 119 (by decide)) hg12 ?_
        refine e_ldcw (v := 100000) f208_89 (by decide) (by decide) ?_
        by_cases hc13 : (hI (h) (119) (v3).toNatClampNeg) = ((100000) : Int32)
        · rw [if_pos hc13] at hp
          refine e_icmp_ne_f f208_92 hc13 ?_
          refine e_aload_n f208_95 rfl ?_
          refine e_getI f208_96 (WF.t w 86 (by decide)) (by decide) ?_
          refine e_goto f208_99 ?_
          refine ex_weak (ls := [some (.ref (86)), some (.int (a0)), some (.int (v2)), some (.int (v3))]) (le2_ok ⟨Or.inr rfl, Or.inr rfl, Or.inr rfl, Or.inr rfl, trivial⟩) ?_
          exact p208_j108_ok d F a0 ((p208_L60 F a0 n)) (ih) (h) (w) (v2) (v3) (hI (h) (86) 1) (v3) _ hp
        · rw [if_neg hc13] at hp
          refine e_icmp_ne_t f208_92 hc13 ?_
          refine ex_weak (ls := [some (.ref (86)), some (.int (a0)), some (.int (v2)), some (.int (v3))]) (le2_ok ⟨Or.inr rfl, Or.inr rfl, Or.inr rfl, Or.inr rfl, trivial⟩) ?_
          exact p208_j102_ok d F a0 ((p208_L60 F a0 n)) (ih) (h) (w) (v2) (v3) (v3) _ hp
      · rw [if_neg hc11] at hp
        refine e_icmp_ne_t f208_80 hc11 ?_
        refine ex_weak (ls := [some (.ref (86)), some (.int (a0)), some (.int (v2)), some (.int (v3))]) (le2_ok ⟨Or.inr rfl, Or.inr rfl, Or.inr rfl, Or.inr rfl, trivial⟩) ?_
        exact p208_j102_ok d F a0 ((p208_L60 F a0 n)) (ih) (h) (w) (v2) (v3) (v3) _ hp
    · rw [if_neg hc9] at hp
      refine e_icmp_ge_t f208_65 hc9 ?_
      refine e_iconst (v := 0) f208_115 (by decide) ?_
      refine e_istore_n (ls2 := [some (.ref (86)), some (.int (a0)), some (.int (v2)), some (.int (0))]) f208_116 (Nat.le_of_ble_eq_true rfl) rfl ?_
      refine ex_weak (ls := [some (.ref (86)), some (.int (a0)), some (.int (v2)), some (.int (0))]) (le2_ok ⟨Or.inr rfl, Or.inr rfl, Or.inr rfl, Or.inr rfl, trivial⟩) ?_
      exact p208_L117_ok d F a0 F (h) (w) (v2) (0) _ hp
set_option maxRecDepth 100000 in
set_option maxHeartbeats 4000000 in
theorem p208_L60_w (F : Nat) (a0 : Int32) : ∀ (n : Nat) (h : HS) (w : WF h) (v2 : Int32) (v3 : Int32) (r : Int32 × HS), p208_L60 F a0 n h v2 v3 = some r → WF r.2 := by
  intro n
  induction n with
  | zero => intro h w v2 v3 r hp; cases hp
  | succ n ih =>
    intro h w v2 v3 r hp
    unfold p208_L60 at hp
    by_cases hc9 : (v3) < ((hI (h) (86) 32) : Int32)
    · rw [if_pos hc9] at hp
      by_cases hg10 : (v3) < (0 : Int32) ∨ 200 ≤ (v3).toNatClampNeg
      · rw [if_pos hg10] at hp; cases hp
      rw [if_neg hg10] at hp
      by_cases hc11 : (hI (h) (111) (v3).toNatClampNeg) = ((a0) : Int32)
      · rw [if_pos hc11] at hp
        by_cases hg12 : (v3) < (0 : Int32) ∨ 200 ≤ (v3).toNatClampNeg
        · rw [if_pos hg12] at hp; cases hp
        rw [if_neg hg12] at hp
        by_cases hc13 : (hI (h) (119) (v3).toNatClampNeg) = ((100000) : Int32)
        · rw [if_pos hc13] at hp
          exact p208_j108_w F a0 ((p208_L60 F a0 n)) (ih) (h) (w) (v2) (v3) (hI (h) (86) 1) (v3) _ hp
        · rw [if_neg hc13] at hp
          exact p208_j102_w F a0 ((p208_L60 F a0 n)) (ih) (h) (w) (v2) (v3) (v3) _ hp
      · rw [if_neg hc11] at hp
        exact p208_j102_w F a0 ((p208_L60 F a0 n)) (ih) (h) (w) (v2) (v3) (v3) _ hp
    · rw [if_neg hc9] at hp
      exact p208_L117_w F a0 F (h) (w) (v2) (0) _ hp
set_option maxRecDepth 100000 in
set_option maxHeartbeats 4000000 in
theorem p208_L24_ok (d : Nat) (F : Nat) (a0 : Int32) : ∀ (n : Nat) (h : HS) (w : WF h) (v2 : Int32) (v3 : Int32) (r : Int32 × HS), p208_L24 F a0 n h v2 v3 = some r → ex (d + 3) 208 (24, [some (.ref (86)), some (.int (a0)), some (.int (v2)), some (.int (v3))], [], h) = some (some (.int (r.1)), r.2) := by
  intro n
  induction n with
  | zero => intro h w v2 v3 r hp; cases hp
  | succ n ih =>
    intro h w v2 v3 r hp
    unfold p208_L24 at hp
    refine e_iload_n f208_24 rfl ?_
    refine e_aload_n f208_25 rfl ?_
    refine e_getI f208_26 (WF.t w 86 (by decide)) (by decide) ?_
    by_cases hc5 : (v3) < ((hI (h) (86) 3) : Int32)
    · rw [if_pos hc5] at hp
      refine e_icmp_ge_f f208_29 hc5 ?_
      refine e_aload_n f208_32 rfl ?_
      refine e_getR f208_33 (WF.t w 86 (by decide)) rfl (WF.r (q := 91) w 86 8 (by decide)) ?_
      refine e_iload_n f208_36 rfl ?_
      by_cases hg6 : (v3) < (0 : Int32) ∨ 200 ≤ (v3).toNatClampNeg
      · rw [if_pos hg6] at hp; cases hp
      rw [if_neg hg6] at hp
      refine e_iaload f208_37 (Or.inl (WF.t w 91 (by decide))) (WF.n w 91 (by decide)) hg6 ?_
      refine e_iload_n f208_38 rfl ?_
      by_cases hc7 : (hI (h) (91) (v3).toNatClampNeg) = ((a0) : Int32)
      · rw [if_pos hc7] at hp
        refine e_icmp_ne_f f208_39 hc7 ?_
        refine e_aload_n f208_42 rfl ?_
        refine e_getR f208_43 (WF.t w 86 (by decide)) rfl (WF.r (q := 91) w 86 8 (by decide)) ?_
        refine e_iload_n f208_46 rfl ?_
        refine e_iconst (v := -1) f208_47 (by decide) ?_
        by_cases hg8 : (v3) < (0 : Int32) ∨ 200 ≤ (v3).toNatClampNeg
        · rw [if_pos hg8] at hp; cases hp
        rw [if_neg hg8] at hp
        refine e_iastore f208_48 (WF.t w 91 (by decide)) (WF.n w 91 (by decide)) hg8 ?_
        refine e_iinc (ls2 := [some (.ref (86)), some (.int (a0)), some (.int ((v2) + 1)), some (.int (v3))]) f208_49 (by decide) rfl rfl ?_
        refine ex_weak (ls := [some (.ref (86)), some (.int (a0)), some (.int ((v2) + 1)), some (.int (v3))]) (le2_ok ⟨Or.inr rfl, Or.inr rfl, Or.inr rfl, Or.inr rfl, trivial⟩) ?_
        exact p208_j52_ok d F a0 ((p208_L24 F a0 n)) (ih) (hsI (h) (91) (v3).toNatClampNeg ((-1))) (w) ((v2) + 1) (v3) _ hp
      · rw [if_neg hc7] at hp
        refine e_icmp_ne_t f208_39 hc7 ?_
        refine ex_weak (ls := [some (.ref (86)), some (.int (a0)), some (.int (v2)), some (.int (v3))]) (le2_ok ⟨Or.inr rfl, Or.inr rfl, Or.inr rfl, Or.inr rfl, trivial⟩) ?_
        exact p208_j52_ok d F a0 ((p208_L24 F a0 n)) (ih) (h) (w) (v2) (v3) _ hp
    · rw [if_neg hc5] at hp
      refine e_icmp_ge_t f208_29 hc5 ?_
      refine e_iconst (v := 0) f208_58 (by decide) ?_
      refine e_istore_n (ls2 := [some (.ref (86)), some (.int (a0)), some (.int (v2)), some (.int (0))]) f208_59 (Nat.le_of_ble_eq_true rfl) rfl ?_
      refine ex_weak (ls := [some (.ref (86)), some (.int (a0)), some (.int (v2)), some (.int (0))]) (le2_ok ⟨Or.inr rfl, Or.inr rfl, Or.inr rfl, Or.inr rfl, trivial⟩) ?_
      exact p208_L60_ok d F a0 F (h) (w) (v2) (0) _ hp
set_option maxRecDepth 100000 in
set_option maxHeartbeats 4000000 in
theorem p208_L24_w (F : Nat) (a0 : Int32) : ∀ (n : Nat) (h : HS) (w : WF h) (v2 : Int32) (v3 : Int32) (r : Int32 × HS), p208_L24 F a0 n h v2 v3 = some r → WF r.2 := by
  intro n
  induction n with
  | zero => intro h w v2 v3 r hp; cases hp
  | succ n ih =>
    intro h w v2 v3 r hp
    unfold p208_L24 at hp
    by_cases hc5 : (v3) < ((hI (h) (86) 3) : Int32)
    · rw [if_pos hc5] at hp
      by_cases hg6 : (v3) < (0 : Int32) ∨ 200 ≤ (v3).toNatClampNeg
      · rw [if_pos hg6] at hp; cases hp
      rw [if_neg hg6] at hp
      by_cases hc7 : (hI (h) (91) (v3).toNatClampNeg) = ((a0) : Int32)
      · rw [if_pos hc7] at hp
        by_cases hg8 : (v3) < (0 : Int32) ∨ 200 ≤ (v3).toNatClampNeg
        · rw [if_pos hg8] at hp; cases hp
        rw [if_neg hg8] at hp
        exact p208_j52_w F a0 ((p208_L24 F a0 n)) (ih) (hsI (h) (91) (v3).toNatClampNeg ((-1))) (w) ((v2) + 1) (v3) _ hp
      · rw [if_neg hc7] at hp
        exact p208_j52_w F a0 ((p208_L24 F a0 n)) (ih) (h) (w) (v2) (v3) _ hp
    · rw [if_neg hc5] at hp
      exact p208_L60_w F a0 F (h) (w) (v2) (0) _ hp
set_option maxRecDepth 100000 in
set_option maxHeartbeats 4000000 in
theorem p208_ok (d : Nat) (F : Nat) (h : HS) (w : WF h) (a0 : Int32) (r : Int32 × HS) (hp : p208 F h a0 = some r) : ex (d + 3) 208 (ent 208 [.ref (86), .int (a0)] h) = some (some (.int (r.1)), r.2) := by
  rw [show ent 208 [.ref (86), .int (a0)] h = (0, [some (.ref (86)), some (.int (a0)), none, none], [], h) from by  rfl]
  refine ex_weak (ls := [some (.ref (86)), some (.int (a0)), none, none]) (le2_ok ⟨Or.inr rfl, Or.inr rfl, Or.inr rfl, Or.inr rfl, trivial⟩) ?_
  unfold p208 at hp
  refine e_aload_n f208_0 rfl ?_
  refine e_iload_n f208_1 rfl ?_
  obtain ⟨r1, hr2, hp⟩ := bind_some hp
  try dsimp only at hp
  refine e_callV (st := []) (o := 86) (as := [.int (a0)]) f208_2 (by decide) rfl rfl (Nat.le_of_ble_eq_true rfl) (WF.t w 86 (by decide)) (Nat.le_of_ble_eq_true rfl) (p206_ok d (h) w (a0) r1 hr2) ?_
  show ex _ 208 (5, [some (.ref (86)), some (.int (a0)), none, none], [.int (r1)], h) = _
  by_cases hc3 : (r1) = (0 : Int32)
  · rw [if_pos hc3] at hp
    refine e_if_ne_f f208_5 hc3 ?_
    refine e_iconst (v := -1) f208_8 (by decide) ?_
    have hp := Option.some.inj hp
    subst hp
    exact e_ireturn f208_9 (Or.inl rfl)
  · rw [if_neg hc3] at hp
    refine e_if_ne_t f208_5 hc3 ?_
    refine e_aload_n f208_10 rfl ?_
    refine e_getR f208_11 (WF.t w 86 (by decide)) rfl (WF.r (q := 97) w 86 17 (by decide)) ?_
    refine e_iload_n f208_14 rfl ?_
    refine e_aload_n f208_15 rfl ?_
    refine e_getI f208_16 (WF.t w 86 (by decide)) (by decide) ?_
    by_cases hg4 : (a0) < (0 : Int32) ∨ 200 ≤ (a0).toNatClampNeg
    · rw [if_pos hg4] at hp; cases hp
    rw [if_neg hg4] at hp
    refine e_iastore f208_19 (WF.t w 97 (by decide)) (WF.n w 97 (by decide)) hg4 ?_
    refine e_iconst (v := 0) f208_20 (by decide) ?_
    refine e_istore_n (ls2 := [some (.ref (86)), some (.int (a0)), some (.int (0)), none]) f208_21 (Nat.le_of_ble_eq_true rfl) rfl ?_
    refine e_iconst (v := 0) f208_22 (by decide) ?_
    refine e_istore_n (ls2 := [some (.ref (86)), some (.int (a0)), some (.int (0)), some (.int (0))]) f208_23 (Nat.le_of_ble_eq_true rfl) rfl ?_
    refine ex_weak (ls := [some (.ref (86)), some (.int (a0)), some (.int (0)), some (.int (0))]) (le2_ok ⟨Or.inr rfl, Or.inr rfl, Or.inr rfl, Or.inr rfl, trivial⟩) ?_
    exact p208_L24_ok d F a0 F (hsI (h) (97) (a0).toNatClampNeg (hI (h) (86) 1)) (w) (0) (0) _ hp
set_option maxRecDepth 100000 in
set_option maxHeartbeats 4000000 in
theorem p208_w (F : Nat) (h : HS) (w : WF h) (a0 : Int32) (r : Int32 × HS) (hp : p208 F h a0 = some r) : WF r.2 := by
  unfold p208 at hp
  obtain ⟨r1, hr2, hp⟩ := bind_some hp
  try dsimp only at hp
  by_cases hc3 : (r1) = (0 : Int32)
  · rw [if_pos hc3] at hp
    have hp := Option.some.inj hp
    subst hp
    exact (w)
  · rw [if_neg hc3] at hp
    by_cases hg4 : (a0) < (0 : Int32) ∨ 200 ≤ (a0).toNatClampNeg
    · rw [if_pos hg4] at hp; cases hp
    rw [if_neg hg4] at hp
    exact p208_L24_w F a0 F (hsI (h) (97) (a0).toNatClampNeg (hI (h) (86) 1)) (w) (0) (0) _ hp
theorem f209_0 : fetch 209 0 = some (.aload_n 0, 0, 0, 0) := rfl
theorem f209_1 : fetch 209 1 = some (.iload_n 1, 0, 0, 0) := rfl
theorem f209_2 : fetch 209 2 = some (.invokevirtual 301, 206, 1, 0) := rfl
theorem f209_5 : fetch 209 5 = some (.ifCond .eq 15, 20, 0, 0) := rfl
theorem f209_8 : fetch 209 8 = some (.aload_n 0, 0, 0, 0) := rfl
theorem f209_9 : fetch 209 9 = some (.getfield 37, 12, 16, 2) := rfl
theorem f209_12 : fetch 209 12 = some (.iload_n 1, 0, 0, 0) := rfl
theorem f209_13 : fetch 209 13 = some (.iaload, 0, 0, 0) := rfl
theorem f209_14 : fetch 209 14 = some (.ldc_w 290, 0, 0, 100000) := rfl
theorem f209_17 : fetch 209 17 = some (.if_icmp .eq 5, 22, 0, 0) := rfl
theorem f209_20 : fetch 209 20 = some (.iconst 0, 0, 0, 0) := rfl
theorem f209_21 : fetch 209 21 = some (.ireturn, 0, 0, 1) := rfl
theorem f209_22 : fetch 209 22 = some (.aload_n 0, 0, 0, 0) := rfl
theorem f209_23 : fetch 209 23 = some (.getfield 37, 12, 16, 2) := rfl
theorem f209_26 : fetch 209 26 = some (.iload_n 1, 0, 0, 0) := rfl
theorem f209_27 : fetch 209 27 = some (.aload_n 0, 0, 0, 0) := rfl
theorem f209_28 : fetch 209 28 = some (.getfield 244, 12, 1, 0) := rfl
theorem f209_31 : fetch 209 31 = some (.iastore, 0, 0, 0) := rfl
theorem f209_32 : fetch 209 32 = some (.iconst 1, 0, 0, 0) := rfl
theorem f209_33 : fetch 209 33 = some (.ireturn, 0, 0, 1) := rfl
set_option maxRecDepth 100000 in
set_option maxHeartbeats 4000000 in
theorem p209_ok (d : Nat) (h : HS) (w : WF h) (a0 : Int32) (r : Int32 × HS) (hp : p209 h a0 = some r) : ex (d + 3) 209 (ent 209 [.ref (86), .int (a0)] h) = some (some (.int (r.1)), r.2) := by
  rw [show ent 209 [.ref (86), .int (a0)] h = (0, [some (.ref (86)), some (.int (a0))], [], h) from by  rfl]
  refine ex_weak (ls := [some (.ref (86)), some (.int (a0))]) (le2_ok ⟨Or.inr rfl, Or.inr rfl, trivial⟩) ?_
  unfold p209 at hp
  refine e_aload_n f209_0 rfl ?_
  refine e_iload_n f209_1 rfl ?_
  obtain ⟨r1, hr2, hp⟩ := bind_some hp
  try dsimp only at hp
  refine e_callV (st := []) (o := 86) (as := [.int (a0)]) f209_2 (by decide) rfl rfl (Nat.le_of_ble_eq_true rfl) (WF.t w 86 (by decide)) (Nat.le_of_ble_eq_true rfl) (p206_ok d (h) w (a0) r1 hr2) ?_
  show ex _ 209 (5, [some (.ref (86)), some (.int (a0))], [.int (r1)], h) = _
  by_cases hc3 : (r1) = (0 : Int32)
  · rw [if_pos hc3] at hp
    refine e_if_eq_t f209_5 hc3 ?_
    refine e_iconst (v := 0) f209_20 (by decide) ?_
    have hp := Option.some.inj hp
    subst hp
    exact e_ireturn f209_21 (by decide)
  · rw [if_neg hc3] at hp
    refine e_if_eq_f f209_5 hc3 ?_
    refine e_aload_n f209_8 rfl ?_
    refine e_getR f209_9 (WF.t w 86 (by decide)) rfl (WF.r (q := 96) w 86 16 (by decide)) ?_
    refine e_iload_n f209_12 rfl ?_
    by_cases hg4 : (a0) < (0 : Int32) ∨ 200 ≤ (a0).toNatClampNeg
    · rw [if_pos hg4] at hp; cases hp
    rw [if_neg hg4] at hp
    refine e_iaload f209_13 (Or.inl (WF.t w 96 (by decide))) (WF.n w 96 (by decide)) hg4 ?_
    refine e_ldcw (v := 100000) f209_14 (by decide) (by decide) ?_
    by_cases hc5 : (hI (h) (96) (a0).toNatClampNeg) = ((100000) : Int32)
    · rw [if_pos hc5] at hp
      refine e_icmp_eq_t f209_17 hc5 ?_
      refine e_aload_n f209_22 rfl ?_
      refine e_getR f209_23 (WF.t w 86 (by decide)) rfl (WF.r (q := 96) w 86 16 (by decide)) ?_
      refine e_iload_n f209_26 rfl ?_
      refine e_aload_n f209_27 rfl ?_
      refine e_getI f209_28 (WF.t w 86 (by decide)) (by decide) ?_
      by_cases hg6 : (a0) < (0 : Int32) ∨ 200 ≤ (a0).toNatClampNeg
      · rw [if_pos hg6] at hp; cases hp
      rw [if_neg hg6] at hp
      refine e_iastore f209_31 (WF.t w 96 (by decide)) (WF.n w 96 (by decide)) hg6 ?_
      refine e_iconst (v := 1) f209_32 (by decide) ?_
      have hp := Option.some.inj hp
      subst hp
      exact e_ireturn f209_33 (by decide)
    · rw [if_neg hc5] at hp
      refine e_icmp_eq_f f209_17 hc5 ?_
      refine e_iconst (v := 0) f209_20 (by decide) ?_
      have hp := Option.some.inj hp
      subst hp
      exact e_ireturn f209_21 (by decide)
set_option maxRecDepth 100000 in
set_option maxHeartbeats 4000000 in
theorem p209_w (h : HS) (w : WF h) (a0 : Int32) (r : Int32 × HS) (hp : p209 h a0 = some r) : WF r.2 := by
  unfold p209 at hp
  obtain ⟨r1, hr2, hp⟩ := bind_some hp
  try dsimp only at hp
  by_cases hc3 : (r1) = (0 : Int32)
  · rw [if_pos hc3] at hp
    have hp := Option.some.inj hp
    subst hp
    exact (w)
  · rw [if_neg hc3] at hp
    by_cases hg4 : (a0) < (0 : Int32) ∨ 200 ≤ (a0).toNatClampNeg
    · rw [if_pos hg4] at hp; cases hp
    rw [if_neg hg4] at hp
    by_cases hc5 : (hI (h) (96) (a0).toNatClampNeg) = ((100000) : Int32)
    · rw [if_pos hc5] at hp
      by_cases hg6 : (a0) < (0 : Int32) ∨ 200 ≤ (a0).toNatClampNeg
      · rw [if_pos hg6] at hp; cases hp
      rw [if_neg hg6] at hp
      have hp := Option.some.inj hp
      subst hp
      exact (w)
    · rw [if_neg hc5] at hp
      have hp := Option.some.inj hp
      subst hp
      exact (w)
theorem f210_0 : fetch 210 0 = some (.iload_n 0, 0, 0, 0) := rfl
theorem f210_1 : fetch 210 1 = some (.ldc_w 290, 0, 0, 100000) := rfl
theorem f210_4 : fetch 210 4 = some (.if_icmp .ne 7, 11, 0, 0) := rfl
theorem f210_7 : fetch 210 7 = some (.iconst (-1), 0, 0, 0) := rfl
theorem f210_8 : fetch 210 8 = some (.goto 4, 12, 0, 0) := rfl
theorem f210_11 : fetch 210 11 = some (.iload_n 0, 0, 0, 0) := rfl
theorem f210_12 : fetch 210 12 = some (.ireturn, 0, 0, 0) := rfl
set_option maxRecDepth 100000 in
set_option maxHeartbeats 4000000 in
theorem p210_ok (d : Nat) (h : HS) (w : WF h) (a0 : Int32) (r : Int32) (hp : p210 h a0 = some r) : ex (d + 0) 210 (ent 210 [.int (a0)] h) = some (some (.int (r)), h) := by
  rw [show ent 210 [.int (a0)] h = (0, [some (.int (a0))], [], h) from by  rfl]
  refine ex_weak (ls := [some (.int (a0))]) (le2_ok ⟨Or.inr rfl, trivial⟩) ?_
  unfold p210 at hp
  refine e_iload_n f210_0 rfl ?_
  refine e_ldcw (v := 100000) f210_1 (by decide) (by decide) ?_
  by_cases hc1 : (a0) = ((100000) : Int32)
  · rw [if_pos hc1] at hp
    refine e_icmp_ne_f f210_4 hc1 ?_
    refine e_iconst (v := -1) f210_7 (by decide) ?_
    refine e_goto f210_8 ?_
    have hp := Option.some.inj hp
    subst hp
    exact e_ireturn f210_12 (Or.inl rfl)
  · rw [if_neg hc1] at hp
    refine e_icmp_ne_t f210_4 hc1 ?_
    refine e_iload_n f210_11 rfl ?_
    have hp := Option.some.inj hp
    subst hp
    exact e_ireturn f210_12 (Or.inl rfl)
theorem f211_0 : fetch 211 0 = some (.aload_n 0, 0, 0, 0) := rfl
theorem f211_1 : fetch 211 1 = some (.iload_n 1, 0, 0, 0) := rfl
theorem f211_2 : fetch 211 2 = some (.invokevirtual 291, 205, 1, 0) := rfl
theorem f211_5 : fetch 211 5 = some (.ifCond .ne 5, 10, 0, 0) := rfl
theorem f211_8 : fetch 211 8 = some (.iconst (-1), 0, 0, 0) := rfl
theorem f211_9 : fetch 211 9 = some (.ireturn, 0, 0, 0) := rfl
theorem f211_10 : fetch 211 10 = some (.iconst 0, 0, 0, 0) := rfl
theorem f211_11 : fetch 211 11 = some (.istore_n 3, 0, 0, 0) := rfl
theorem f211_12 : fetch 211 12 = some (.iload_n 2, 0, 0, 0) := rfl
theorem f211_13 : fetch 211 13 = some (.tableswitch 162 0 6 #[43, 50, 60, 70, 77, 84, 123], 0, 0, 0) := rfl
theorem f211_56 : fetch 211 56 = some (.aload_n 0, 0, 0, 0) := rfl
theorem f211_57 : fetch 211 57 = some (.getfield 34, 12, 15, 2) := rfl
theorem f211_60 : fetch 211 60 = some (.iload_n 1, 0, 0, 0) := rfl
theorem f211_61 : fetch 211 61 = some (.iaload, 0, 0, 0) := rfl
theorem f211_62 : fetch 211 62 = some (.ireturn, 0, 0, 0) := rfl
theorem f211_63 : fetch 211 63 = some (.aload_n 0, 0, 0, 0) := rfl
theorem f211_64 : fetch 211 64 = some (.getfield 37, 12, 16, 2) := rfl
theorem f211_67 : fetch 211 67 = some (.iload_n 1, 0, 0, 0) := rfl
theorem f211_68 : fetch 211 68 = some (.iaload, 0, 0, 0) := rfl
theorem f211_69 : fetch 211 69 = some (.invokestatic 310, 210, 1, 1) := rfl
theorem f211_72 : fetch 211 72 = some (.ireturn, 0, 0, 0) := rfl
theorem f211_73 : fetch 211 73 = some (.aload_n 0, 0, 0, 0) := rfl
theorem f211_74 : fetch 211 74 = some (.getfield 40, 12, 17, 2) := rfl
theorem f211_77 : fetch 211 77 = some (.iload_n 1, 0, 0, 0) := rfl
theorem f211_78 : fetch 211 78 = some (.iaload, 0, 0, 0) := rfl
theorem f211_79 : fetch 211 79 = some (.invokestatic 310, 210, 1, 1) := rfl
theorem f211_82 : fetch 211 82 = some (.ireturn, 0, 0, 0) := rfl
theorem f211_83 : fetch 211 83 = some (.aload_n 0, 0, 0, 0) := rfl
theorem f211_84 : fetch 211 84 = some (.getfield 43, 12, 18, 2) := rfl
theorem f211_87 : fetch 211 87 = some (.iload_n 1, 0, 0, 0) := rfl
theorem f211_88 : fetch 211 88 = some (.iaload, 0, 0, 0) := rfl
theorem f211_89 : fetch 211 89 = some (.ireturn, 0, 0, 0) := rfl
theorem f211_90 : fetch 211 90 = some (.aload_n 0, 0, 0, 0) := rfl
theorem f211_91 : fetch 211 91 = some (.getfield 46, 12, 19, 2) := rfl
theorem f211_94 : fetch 211 94 = some (.iload_n 1, 0, 0, 0) := rfl
theorem f211_95 : fetch 211 95 = some (.iaload, 0, 0, 0) := rfl
theorem f211_96 : fetch 211 96 = some (.ireturn, 0, 0, 0) := rfl
theorem f211_97 : fetch 211 97 = some (.iconst 0, 0, 0, 0) := rfl
theorem f211_98 : fetch 211 98 = some (.istore 4, 0, 0, 0) := rfl
theorem f211_100 : fetch 211 100 = some (.iload 4, 0, 0, 0) := rfl
theorem f211_102 : fetch 211 102 = some (.aload_n 0, 0, 0, 0) := rfl
theorem f211_103 : fetch 211 103 = some (.getfield 304, 12, 32, 0) := rfl
theorem f211_106 : fetch 211 106 = some (.if_icmp .ge 28, 134, 0, 0) := rfl
theorem f211_109 : fetch 211 109 = some (.iload_n 3, 0, 0, 0) := rfl
theorem f211_110 : fetch 211 110 = some (.aload_n 0, 0, 0, 0) := rfl
theorem f211_111 : fetch 211 111 = some (.getfield 82, 12, 36, 2) := rfl
theorem f211_114 : fetch 211 114 = some (.iload 4, 0, 0, 0) := rfl
theorem f211_116 : fetch 211 116 = some (.iaload, 0, 0, 0) := rfl
theorem f211_117 : fetch 211 117 = some (.iload_n 1, 0, 0, 0) := rfl
theorem f211_118 : fetch 211 118 = some (.if_icmp .ne 7, 125, 0, 0) := rfl
theorem f211_121 : fetch 211 121 = some (.iconst 1, 0, 0, 0) := rfl
theorem f211_122 : fetch 211 122 = some (.goto 4, 126, 0, 0) := rfl
theorem f211_125 : fetch 211 125 = some (.iconst 0, 0, 0, 0) := rfl
theorem f211_126 : fetch 211 126 = some (.iadd, 0, 0, 0) := rfl
theorem f211_127 : fetch 211 127 = some (.istore_n 3, 0, 0, 0) := rfl
theorem f211_128 : fetch 211 128 = some (.iinc 4 1, 0, 0, 0) := rfl
theorem f211_131 : fetch 211 131 = some (.goto (-31), 100, 0, 0) := rfl
theorem f211_134 : fetch 211 134 = some (.iload_n 3, 0, 0, 0) := rfl
theorem f211_135 : fetch 211 135 = some (.ireturn, 0, 0, 0) := rfl
theorem f211_136 : fetch 211 136 = some (.iconst 0, 0, 0, 0) := rfl
theorem f211_137 : fetch 211 137 = some (.istore 4, 0, 0, 0) := rfl
theorem f211_139 : fetch 211 139 = some (.iload 4, 0, 0, 0) := rfl
theorem f211_141 : fetch 211 141 = some (.aload_n 0, 0, 0, 0) := rfl
theorem f211_142 : fetch 211 142 = some (.getfield 307, 12, 33, 0) := rfl
theorem f211_145 : fetch 211 145 = some (.if_icmp .ge 28, 173, 0, 0) := rfl
theorem f211_148 : fetch 211 148 = some (.iload_n 3, 0, 0, 0) := rfl
theorem f211_149 : fetch 211 149 = some (.aload_n 0, 0, 0, 0) := rfl
theorem f211_150 : fetch 211 150 = some (.getfield 109, 12, 45, 2) := rfl
theorem f211_153 : fetch 211 153 = some (.iload 4, 0, 0, 0) := rfl
theorem f211_155 : fetch 211 155 = some (.iaload, 0, 0, 0) := rfl
theorem f211_156 : fetch 211 156 = some (.iload_n 1, 0, 0, 0) := rfl
theorem f211_157 : fetch 211 157 = some (.if_icmp .ne 7, 164, 0, 0) := rfl
theorem f211_160 : fetch 211 160 = some (.iconst 1, 0, 0, 0) := rfl
theorem f211_161 : fetch 211 161 = some (.goto 4, 165, 0, 0) := rfl
theorem f211_164 : fetch 211 164 = some (.iconst 0, 0, 0, 0) := rfl
theorem f211_165 : fetch 211 165 = some (.iadd, 0, 0, 0) := rfl
theorem f211_166 : fetch 211 166 = some (.istore_n 3, 0, 0, 0) := rfl
theorem f211_167 : fetch 211 167 = some (.iinc 4 1, 0, 0, 0) := rfl
theorem f211_170 : fetch 211 170 = some (.goto (-31), 139, 0, 0) := rfl
theorem f211_173 : fetch 211 173 = some (.iload_n 3, 0, 0, 0) := rfl
theorem f211_174 : fetch 211 174 = some (.ireturn, 0, 0, 0) := rfl
theorem f211_175 : fetch 211 175 = some (.iconst (-1), 0, 0, 0) := rfl
theorem f211_176 : fetch 211 176 = some (.ireturn, 0, 0, 0) := rfl
set_option maxRecDepth 100000 in
set_option maxHeartbeats 4000000 in
theorem p211_j126_ok (d : Nat) (F : Nat) (a0 : Int32) (a1 : Int32) (K100 : Int32 → Int32 → Option (Int32)) (h : HS) (w : WF h) (hK100 : ∀ (u3 : Int32) (u4 : Int32) (r : Int32), K100 u3 u4 = some r → ex (d + 2) 211 (100, [some (.ref (86)), some (.int (a0)), none, some (.int (u3)), some (.int (u4))], [], h) = some (some (.int (r)), h)) (v4 : Int32) (s0 : Int32) (s1 : Int32) (r : Int32) (hp : p211_j126 F a0 a1 K100 h v4 s0 s1 = some r) : ex (d + 2) 211 (126, [some (.ref (86)), some (.int (a0)), none, none, some (.int (v4))], [.int (s0), .int (s1)], h) = some (some (.int (r)), h) := by
  unfold p211_j126 at hp
  refine e_iadd f211_126 ?_
  refine e_istore_n (ls2 := [some (.ref (86)), some (.int (a0)), none, some (.int ((s1) + (s0))), some (.int (v4))]) f211_127 (Nat.le_of_ble_eq_true rfl) rfl ?_
  refine e_iinc (ls2 := [some (.ref (86)), some (.int (a0)), none, some (.int ((s1) + (s0))), some (.int ((v4) + 1))]) f211_128 (by decide) rfl rfl ?_
  refine e_goto f211_131 ?_
  refine ex_weak (ls := [some (.ref (86)), some (.int (a0)), none, some (.int ((s1) + (s0))), some (.int ((v4) + 1))]) (le2_ok ⟨Or.inr rfl, Or.inr rfl, Or.inl rfl, Or.inr rfl, Or.inr rfl, trivial⟩) ?_
  exact hK100 ((s1) + (s0)) ((v4) + 1) _ hp
set_option maxRecDepth 100000 in
set_option maxHeartbeats 4000000 in
theorem p211_j165_ok (d : Nat) (F : Nat) (a0 : Int32) (a1 : Int32) (K139 : Int32 → Int32 → Option (Int32)) (h : HS) (w : WF h) (hK139 : ∀ (u3 : Int32) (u4 : Int32) (r : Int32), K139 u3 u4 = some r → ex (d + 2) 211 (139, [some (.ref (86)), some (.int (a0)), none, some (.int (u3)), some (.int (u4))], [], h) = some (some (.int (r)), h)) (v4 : Int32) (s0 : Int32) (s1 : Int32) (r : Int32) (hp : p211_j165 F a0 a1 K139 h v4 s0 s1 = some r) : ex (d + 2) 211 (165, [some (.ref (86)), some (.int (a0)), none, none, some (.int (v4))], [.int (s0), .int (s1)], h) = some (some (.int (r)), h) := by
  unfold p211_j165 at hp
  refine e_iadd f211_165 ?_
  refine e_istore_n (ls2 := [some (.ref (86)), some (.int (a0)), none, some (.int ((s1) + (s0))), some (.int (v4))]) f211_166 (Nat.le_of_ble_eq_true rfl) rfl ?_
  refine e_iinc (ls2 := [some (.ref (86)), some (.int (a0)), none, some (.int ((s1) + (s0))), some (.int ((v4) + 1))]) f211_167 (by decide) rfl rfl ?_
  refine e_goto f211_170 ?_
  refine ex_weak (ls := [some (.ref (86)), some (.int (a0)), none, some (.int ((s1) + (s0))), some (.int ((v4) + 1))]) (le2_ok ⟨Or.inr rfl, Or.inr rfl, Or.inl rfl, Or.inr rfl, Or.inr rfl, trivial⟩) ?_
  exact hK139 ((s1) + (s0)) ((v4) + 1) _ hp
set_option maxRecDepth 100000 in
set_option maxHeartbeats 4000000 in
theorem p211_L100_ok (d : Nat) (F : Nat) (a0 : Int32) (a1 : Int32) (h : HS) (w : WF h)  : ∀ (n : Nat) (v3 : Int32) (v4 : Int32) (r : Int32), p211_L100 F a0 a1 n h v3 v4 = some r → ex (d + 2) 211 (100, [some (.ref (86)), some (.int (a0)), none, some (.int (v3)), some (.int (v4))], [], h) = some (some (.int (r)), h) := by
  intro n
  induction n with
  | zero => intro v3 v4 r hp; cases hp
  | succ n ih =>
    intro v3 v4 r hp
    unfold p211_L100 at hp
    refine e_iload f211_100 rfl ?_
    refine e_aload_n f211_102 rfl ?_
    refine e_getI f211_103 (WF.t w 86 (by decide)) (by decide) ?_
    by_cases hc21 : (v4) < ((hI (h) (86) 32) : Int32)
    · rw [if_pos hc21] at hp
      refine e_icmp_ge_f f211_106 hc21 ?_
      refine e_iload_n f211_109 rfl ?_
      refine e_aload_n f211_110 rfl ?_
      refine e_getR f211_111 (WF.t w 86 (by decide)) rfl (WF.r (q := 111) w 86 36 (by decide)) ?_
      refine e_iload f211_114 rfl ?_
      by_cases hg22 : (v4) < (0 : Int32) ∨ 200 ≤ (v4).toNatClampNeg
      · rw [if_pos hg22] at hp; cases hp
      rw [if_neg hg22] at hp
      refine e_iaload f211_116 (Or.inl (WF.t w 111 (by decide))) (WF.n w 111 (by decide)) hg22 ?_
      refine e_iload_n f211_117 rfl ?_
      by_cases hc23 : (hI (h) (111) (v4).toNatClampNeg) = ((a0) : Int32)
      · rw [if_pos hc23] at hp
        refine e_icmp_ne_f f211_118 hc23 ?_
        refine e_iconst (v := 1) f211_121 (by decide) ?_
        refine e_goto f211_122 ?_
        refine ex_weak (ls := [some (.ref (86)), some (.int (a0)), none, none, some (.int (v4))]) (le2_ok ⟨Or.inr rfl, Or.inr rfl, Or.inl rfl, Or.inl rfl, Or.inr rfl, trivial⟩) ?_
        exact p211_j126_ok d F a0 a1 ((p211_L100 F a0 a1 n h)) (h) (w) (ih) (v4) (1) (v3) _ hp
      · rw [if_neg hc23] at hp
        refine e_icmp_ne_t f211_118 hc23 ?_
        refine e_iconst (v := 0) f211_125 (by decide) ?_
        refine ex_weak (ls := [some (.ref (86)), some (.int (a0)), none, none, some (.int (v4))]) (le2_ok ⟨Or.inr rfl, Or.inr rfl, Or.inl rfl, Or.inl rfl, Or.inr rfl, trivial⟩) ?_
        exact p211_j126_ok d F a0 a1 ((p211_L100 F a0 a1 n h)) (h) (w) (ih) (v4) (0) (v3) _ hp
    · rw [if_neg hc21] at hp
      refine e_icmp_ge_t f211_106 hc21 ?_
      refine e_iload_n f211_134 rfl ?_
      have hp := Option.some.inj hp
      subst hp
      exact e_ireturn f211_135 (Or.inl rfl)
set_option maxRecDepth 100000 in
set_option maxHeartbeats 4000000 in
theorem p211_L139_ok (d : Nat) (F : Nat) (a0 : Int32) (a1 : Int32) (h : HS) (w : WF h)  : ∀ (n : Nat) (v3 : Int32) (v4 : Int32) (r : Int32), p211_L139 F a0 a1 n h v3 v4 = some r → ex (d + 2) 211 (139, [some (.ref (86)), some (.int (a0)), none, some (.int (v3)), some (.int (v4))], [], h) = some (some (.int (r)), h) := by
  intro n
  induction n with
  | zero => intro v3 v4 r hp; cases hp
  | succ n ih =>
    intro v3 v4 r hp
    unfold p211_L139 at hp
    refine e_iload f211_139 rfl ?_
    refine e_aload_n f211_141 rfl ?_
    refine e_getI f211_142 (WF.t w 86 (by decide)) (by decide) ?_
    by_cases hc24 : (v4) < ((hI (h) (86) 33) : Int32)
    · rw [if_pos hc24] at hp
      refine e_icmp_ge_f f211_145 hc24 ?_
      refine e_iload_n f211_148 rfl ?_
      refine e_aload_n f211_149 rfl ?_
      refine e_getR f211_150 (WF.t w 86 (by decide)) rfl (WF.r (q := 120) w 86 45 (by decide)) ?_
      refine e_iload f211_153 rfl ?_
      by_cases hg25 : (v4) < (0 : Int32) ∨ 200 ≤ (v4).toNatClampNeg
      · rw [if_pos hg25] at hp; cases hp
      rw [if_neg hg25] at hp
      refine e_iaload f211_155 (Or.inl (WF.t w 120 (by decide))) (WF.n w 120 (by decide)) hg25 ?_
      refine e_iload_n f211_156 rfl ?_
      by_cases hc26 : (hI (h) (120) (v4).toNatClampNeg) = ((a0) : Int32)
      · rw [if_pos hc26] at hp
        refine e_icmp_ne_f f211_157 hc26 ?_
        refine e_iconst (v := 1) f211_160 (by decide) ?_
        refine e_goto f211_161 ?_
        refine ex_weak (ls := [some (.ref (86)), some (.int (a0)), none, none, some (.int (v4))]) (le2_ok ⟨Or.inr rfl, Or.inr rfl, Or.inl rfl, Or.inl rfl, Or.inr rfl, trivial⟩) ?_
        exact p211_j165_ok d F a0 a1 ((p211_L139 F a0 a1 n h)) (h) (w) (ih) (v4) (1) (v3) _ hp
      · rw [if_neg hc26] at hp
        refine e_icmp_ne_t f211_157 hc26 ?_
        refine e_iconst (v := 0) f211_164 (by decide) ?_
        refine ex_weak (ls := [some (.ref (86)), some (.int (a0)), none, none, some (.int (v4))]) (le2_ok ⟨Or.inr rfl, Or.inr rfl, Or.inl rfl, Or.inl rfl, Or.inr rfl, trivial⟩) ?_
        exact p211_j165_ok d F a0 a1 ((p211_L139 F a0 a1 n h)) (h) (w) (ih) (v4) (0) (v3) _ hp
    · rw [if_neg hc24] at hp
      refine e_icmp_ge_t f211_145 hc24 ?_
      refine e_iload_n f211_173 rfl ?_
      have hp := Option.some.inj hp
      subst hp
      exact e_ireturn f211_174 (Or.inl rfl)
set_option maxRecDepth 100000 in
set_option maxHeartbeats 4000000 in
theorem p211_ok (d : Nat) (F : Nat) (h : HS) (w : WF h) (a0 : Int32) (a1 : Int32) (r : Int32) (hp : p211 F h a0 a1 = some r) : ex (d + 2) 211 (ent 211 [.ref (86), .int (a0), .int (a1)] h) = some (some (.int (r)), h) := by
  rw [show ent 211 [.ref (86), .int (a0), .int (a1)] h = (0, [some (.ref (86)), some (.int (a0)), some (.int (a1)), none, none], [], h) from by  rfl]
  refine ex_weak (ls := [some (.ref (86)), some (.int (a0)), some (.int (a1)), none, none]) (le2_ok ⟨Or.inr rfl, Or.inr rfl, Or.inr rfl, Or.inr rfl, Or.inr rfl, trivial⟩) ?_
  unfold p211 at hp
  refine e_aload_n f211_0 rfl ?_
  refine e_iload_n f211_1 rfl ?_
  obtain ⟨r1, hr2, hp⟩ := bind_some hp
  try dsimp only at hp
  refine e_callV (st := []) (o := 86) (as := [.int (a0)]) f211_2 (by decide) rfl rfl (Nat.le_of_ble_eq_true rfl) (WF.t w 86 (by decide)) (Nat.le_of_ble_eq_true rfl) (p205_ok d (h) w (a0) r1 hr2) ?_
  show ex _ 211 (5, [some (.ref (86)), some (.int (a0)), some (.int (a1)), none, none], [.int (r1)], h) = _
  by_cases hc3 : (r1) = (0 : Int32)
  · rw [if_pos hc3] at hp
    refine e_if_ne_f f211_5 hc3 ?_
    refine e_iconst (v := -1) f211_8 (by decide) ?_
    have hp := Option.some.inj hp
    subst hp
    exact e_ireturn f211_9 (Or.inl rfl)
  · rw [if_neg hc3] at hp
    refine e_if_ne_t f211_5 hc3 ?_
    refine e_iconst (v := 0) f211_10 (by decide) ?_
    refine e_istore_n (ls2 := [some (.ref (86)), some (.int (a0)), some (.int (a1)), some (.int (0)), none]) f211_11 (Nat.le_of_ble_eq_true rfl) rfl ?_
    refine e_iload_n f211_12 rfl ?_
    by_cases hc4 : (a1) = (0 : Int32)
    · rw [if_pos hc4] at hp
      refine e_sw (t := 56) f211_13 (by rw [hc4]; decide) (by rw [hc4]; decide) ?_
      refine e_aload_n f211_56 rfl ?_
      refine e_getR f211_57 (WF.t w 86 (by decide)) rfl (WF.r (q := 95) w 86 15 (by decide)) ?_
      refine e_iload_n f211_60 rfl ?_
      by_cases hg5 : (a0) < (0 : Int32) ∨ 200 ≤ (a0).toNatClampNeg
      · rw [if_pos hg5] at hp; cases hp
      rw [if_neg hg5] at hp
      refine e_iaload f211_61 (Or.inl (WF.t w 95 (by decide))) (WF.n w 95 (by decide)) hg5 ?_
      have hp := Option.some.inj hp
      subst hp
      exact e_ireturn f211_62 (Or.inl rfl)
    rw [if_neg hc4] at hp
    by_cases hc6 : (a1) = (1 : Int32)
    · rw [if_pos hc6] at hp
      refine e_sw (t := 63) f211_13 (by rw [hc6]; decide) (by rw [hc6]; decide) ?_
      refine e_aload_n f211_63 rfl ?_
      refine e_getR f211_64 (WF.t w 86 (by decide)) rfl (WF.r (q := 96) w 86 16 (by decide)) ?_
      refine e_iload_n f211_67 rfl ?_
      by_cases hg7 : (a0) < (0 : Int32) ∨ 200 ≤ (a0).toNatClampNeg
      · rw [if_pos hg7] at hp; cases hp
      rw [if_neg hg7] at hp
      refine e_iaload f211_68 (Or.inl (WF.t w 96 (by decide))) (WF.n w 96 (by decide)) hg7 ?_
      obtain ⟨r8, hr9, hp⟩ := bind_some hp
      try dsimp only at hp
      refine e_callS (st := []) (as := [.int (hI (h) (96) (a0).toNatClampNeg)]) f211_69 (by decide) rfl rfl (Nat.le_of_ble_eq_true rfl) (Nat.le_of_ble_eq_true rfl) (p210_ok (d + 1) (h) w (hI (h) (96) (a0).toNatClampNeg) r8 hr9) ?_
      show ex _ 211 (72, [some (.ref (86)), some (.int (a0)), some (.int (a1)), some (.int (0)), none], [.int (r8)], h) = _
      have hp := Option.some.inj hp
      subst hp
      exact e_ireturn f211_72 (Or.inl rfl)
    rw [if_neg hc6] at hp
    by_cases hc10 : (a1) = (2 : Int32)
    · rw [if_pos hc10] at hp
      refine e_sw (t := 73) f211_13 (by rw [hc10]; decide) (by rw [hc10]; decide) ?_
      refine e_aload_n f211_73 rfl ?_
      refine e_getR f211_74 (WF.t w 86 (by decide)) rfl (WF.r (q := 97) w 86 17 (by decide)) ?_
      refine e_iload_n f211_77 rfl ?_
      by_cases hg11 : (a0) < (0 : Int32) ∨ 200 ≤ (a0).toNatClampNeg
      · rw [if_pos hg11] at hp; cases hp
      rw [if_neg hg11] at hp
      refine e_iaload f211_78 (Or.inl (WF.t w 97 (by decide))) (WF.n w 97 (by decide)) hg11 ?_
      obtain ⟨r12, hr13, hp⟩ := bind_some hp
      try dsimp only at hp
      refine e_callS (st := []) (as := [.int (hI (h) (97) (a0).toNatClampNeg)]) f211_79 (by decide) rfl rfl (Nat.le_of_ble_eq_true rfl) (Nat.le_of_ble_eq_true rfl) (p210_ok (d + 1) (h) w (hI (h) (97) (a0).toNatClampNeg) r12 hr13) ?_
      show ex _ 211 (82, [some (.ref (86)), some (.int (a0)), some (.int (a1)), some (.int (0)), none], [.int (r12)], h) = _
      have hp := Option.some.inj hp
      subst hp
      exact e_ireturn f211_82 (Or.inl rfl)
    rw [if_neg hc10] at hp
    by_cases hc14 : (a1) = (3 : Int32)
    · rw [if_pos hc14] at hp
      refine e_sw (t := 83) f211_13 (by rw [hc14]; decide) (by rw [hc14]; decide) ?_
      refine e_aload_n f211_83 rfl ?_
      refine e_getR f211_84 (WF.t w 86 (by decide)) rfl (WF.r (q := 98) w 86 18 (by decide)) ?_
      refine e_iload_n f211_87 rfl ?_
      by_cases hg15 : (a0) < (0 : Int32) ∨ 200 ≤ (a0).toNatClampNeg
      · rw [if_pos hg15] at hp; cases hp
      rw [if_neg hg15] at hp
      refine e_iaload f211_88 (Or.inl (WF.t w 98 (by decide))) (WF.n w 98 (by decide)) hg15 ?_
      have hp := Option.some.inj hp
      subst hp
      exact e_ireturn f211_89 (Or.inl rfl)
    rw [if_neg hc14] at hp
    by_cases hc16 : (a1) = (4 : Int32)
    · rw [if_pos hc16] at hp
      refine e_sw (t := 90) f211_13 (by rw [hc16]; decide) (by rw [hc16]; decide) ?_
      refine e_aload_n f211_90 rfl ?_
      refine e_getR f211_91 (WF.t w 86 (by decide)) rfl (WF.r (q := 99) w 86 19 (by decide)) ?_
      refine e_iload_n f211_94 rfl ?_
      by_cases hg17 : (a0) < (0 : Int32) ∨ 200 ≤ (a0).toNatClampNeg
      · rw [if_pos hg17] at hp; cases hp
      rw [if_neg hg17] at hp
      refine e_iaload f211_95 (Or.inl (WF.t w 99 (by decide))) (WF.n w 99 (by decide)) hg17 ?_
      have hp := Option.some.inj hp
      subst hp
      exact e_ireturn f211_96 (Or.inl rfl)
    rw [if_neg hc16] at hp
    by_cases hc18 : (a1) = (5 : Int32)
    · rw [if_pos hc18] at hp
      refine e_sw (t := 97) f211_13 (by rw [hc18]; decide) (by rw [hc18]; decide) ?_
      refine e_iconst (v := 0) f211_97 (by decide) ?_
      refine e_istore (ls2 := [some (.ref (86)), some (.int (a0)), some (.int (a1)), some (.int (0)), some (.int (0))]) f211_98 (Nat.le_of_ble_eq_true rfl) rfl ?_
      refine ex_weak (ls := [some (.ref (86)), some (.int (a0)), none, some (.int (0)), some (.int (0))]) (le2_ok ⟨Or.inr rfl, Or.inr rfl, Or.inl rfl, Or.inr rfl, Or.inr rfl, trivial⟩) ?_
      exact p211_L100_ok d F a0 a1 (h) (w) F (0) (0) _ hp
    rw [if_neg hc18] at hp
    by_cases hc19 : (a1) = (6 : Int32)
    · rw [if_pos hc19] at hp
      refine e_sw (t := 136) f211_13 (by rw [hc19]; decide) (by rw [hc19]; decide) ?_
      refine e_iconst (v := 0) f211_136 (by decide) ?_
      refine e_istore (ls2 := [some (.ref (86)), some (.int (a0)), some (.int (a1)), some (.int (0)), some (.int (0))]) f211_137 (Nat.le_of_ble_eq_true rfl) rfl ?_
      refine ex_weak (ls := [some (.ref (86)), some (.int (a0)), none, some (.int (0)), some (.int (0))]) (le2_ok ⟨Or.inr rfl, Or.inr rfl, Or.inl rfl, Or.inr rfl, Or.inr rfl, trivial⟩) ?_
      exact p211_L139_ok d F a0 a1 (h) (w) F (0) (0) _ hp
    rw [if_neg hc19] at hp
    have ho20 := sw_out (x := a1) 0 6 (fun j h1 h2 => by
      rcases (show j = 0 ∨ j = 1 ∨ j = 2 ∨ j = 3 ∨ j = 4 ∨ j = 5 ∨ j = 6 by omega) with rfl | rfl | rfl | rfl | rfl | rfl | rfl
      · exact i32_ne hc4 (by decide)
      · exact i32_ne hc6 (by decide)
      · exact i32_ne hc10 (by decide)
      · exact i32_ne hc14 (by decide)
      · exact i32_ne hc16 (by decide)
      · exact i32_ne hc18 (by decide)
      · exact i32_ne hc19 (by decide))
    refine e_sw (t := 175) f211_13 ⟨by rw [swTo, if_pos ho20]; decide, by decide⟩ (by rw [swTo, if_pos ho20]; decide) ?_
    refine e_iconst (v := -1) f211_175 (by decide) ?_
    have hp := Option.some.inj hp
    subst hp
    exact e_ireturn f211_176 (Or.inl rfl)
theorem f212_0 : fetch 212 0 = some (.aload_n 0, 0, 0, 0) := rfl
theorem f212_1 : fetch 212 1 = some (.getfield 314, 12, 20, 0) := rfl
theorem f212_4 : fetch 212 4 = some (.bipush 60, 0, 0, 0) := rfl
theorem f212_6 : fetch 212 6 = some (.if_icmp .eq 13, 19, 0, 0) := rfl
theorem f212_9 : fetch 212 9 = some (.iload_n 1, 0, 0, 0) := rfl
theorem f212_10 : fetch 212 10 = some (.iconst (-1), 0, 0, 0) := rfl
theorem f212_11 : fetch 212 11 = some (.bipush 99, 0, 0, 0) := rfl
theorem f212_13 : fetch 212 13 = some (.invokestatic 240, 187, 3, 1) := rfl
theorem f212_16 : fetch 212 16 = some (.ifCond .ne 5, 21, 0, 0) := rfl
theorem f212_19 : fetch 212 19 = some (.iconst (-1), 0, 0, 0) := rfl
theorem f212_20 : fetch 212 20 = some (.ireturn, 0, 0, 0) := rfl
theorem f212_21 : fetch 212 21 = some (.aload_n 0, 0, 0, 0) := rfl
theorem f212_22 : fetch 212 22 = some (.getfield 49, 12, 22, 2) := rfl
theorem f212_25 : fetch 212 25 = some (.aload_n 0, 0, 0, 0) := rfl
theorem f212_26 : fetch 212 26 = some (.getfield 314, 12, 20, 0) := rfl
theorem f212_29 : fetch 212 29 = some (.iload_n 1, 0, 0, 0) := rfl
theorem f212_30 : fetch 212 30 = some (.iastore, 0, 0, 0) := rfl
theorem f212_31 : fetch 212 31 = some (.aload_n 0, 0, 0, 0) := rfl
theorem f212_32 : fetch 212 32 = some (.getfield 52, 12, 23, 2) := rfl
theorem f212_35 : fetch 212 35 = some (.aload_n 0, 0, 0, 0) := rfl
theorem f212_36 : fetch 212 36 = some (.getfield 314, 12, 20, 0) := rfl
theorem f212_39 : fetch 212 39 = some (.iconst (-1), 0, 0, 0) := rfl
theorem f212_40 : fetch 212 40 = some (.iastore, 0, 0, 0) := rfl
theorem f212_41 : fetch 212 41 = some (.aload_n 0, 0, 0, 0) := rfl
theorem f212_42 : fetch 212 42 = some (.dup, 0, 0, 0) := rfl
theorem f212_43 : fetch 212 43 = some (.getfield 314, 12, 20, 0) := rfl
theorem f212_46 : fetch 212 46 = some (.iconst 1, 0, 0, 0) := rfl
theorem f212_47 : fetch 212 47 = some (.iadd, 0, 0, 0) := rfl
theorem f212_48 : fetch 212 48 = some (.putfield 314, 12, 20, 0) := rfl
theorem f212_51 : fetch 212 51 = some (.aload_n 0, 0, 0, 0) := rfl
theorem f212_52 : fetch 212 52 = some (.getfield 314, 12, 20, 0) := rfl
theorem f212_55 : fetch 212 55 = some (.iconst 1, 0, 0, 0) := rfl
theorem f212_56 : fetch 212 56 = some (.isub, 0, 0, 0) := rfl
theorem f212_57 : fetch 212 57 = some (.ireturn, 0, 0, 0) := rfl
set_option maxRecDepth 100000 in
set_option maxHeartbeats 4000000 in
theorem p212_ok (d : Nat) (h : HS) (w : WF h) (a0 : Int32) (r : Int32 × HS) (hp : p212 h a0 = some r) : ex (d + 1) 212 (ent 212 [.ref (86), .int (a0)] h) = some (some (.int (r.1)), r.2) := by
  rw [show ent 212 [.ref (86), .int (a0)] h = (0, [some (.ref (86)), some (.int (a0))], [], h) from by  rfl]
  refine ex_weak (ls := [some (.ref (86)), some (.int (a0))]) (le2_ok ⟨Or.inr rfl, Or.inr rfl, trivial⟩) ?_
  unfold p212 at hp
  refine e_aload_n f212_0 rfl ?_
  refine e_getI f212_1 (WF.t w 86 (by decide)) (by decide) ?_
  refine e_bipush (v := 60) f212_4 (by decide) ?_
  by_cases hc1 : (hI (h) (86) 20) = ((60) : Int32)
  · rw [if_pos hc1] at hp
    refine e_icmp_eq_t f212_6 hc1 ?_
    refine e_iconst (v := -1) f212_19 (by decide) ?_
    have hp := Option.some.inj hp
    subst hp
    exact e_ireturn f212_20 (Or.inl rfl)
  · rw [if_neg hc1] at hp
    refine e_icmp_eq_f f212_6 hc1 ?_
    refine e_iload_n f212_9 rfl ?_
    refine e_iconst (v := -1) f212_10 (by decide) ?_
    refine e_bipush (v := 99) f212_11 (by decide) ?_
    obtain ⟨r2, hr3, hp⟩ := bind_some hp
    try dsimp only at hp
    refine e_callS (st := []) (as := [.int (a0), .int ((-1)), .int (99)]) f212_13 (by decide) rfl rfl (Nat.le_of_ble_eq_true rfl) (Nat.le_of_ble_eq_true rfl) (p187_ok d (h) w (a0) ((-1)) (99) r2 hr3) ?_
    show ex _ 212 (16, [some (.ref (86)), some (.int (a0))], [.int (r2)], h) = _
    by_cases hc4 : (r2) = (0 : Int32)
    · rw [if_pos hc4] at hp
      refine e_if_ne_f f212_16 hc4 ?_
      refine e_iconst (v := -1) f212_19 (by decide) ?_
      have hp := Option.some.inj hp
      subst hp
      exact e_ireturn f212_20 (Or.inl rfl)
    · rw [if_neg hc4] at hp
      refine e_if_ne_t f212_16 hc4 ?_
      refine e_aload_n f212_21 rfl ?_
      refine e_getR f212_22 (WF.t w 86 (by decide)) rfl (WF.r (q := 100) w 86 22 (by decide)) ?_
      refine e_aload_n f212_25 rfl ?_
      refine e_getI f212_26 (WF.t w 86 (by decide)) (by decide) ?_
      refine e_iload_n f212_29 rfl ?_
      by_cases hg5 : (hI (h) (86) 20) < (0 : Int32) ∨ 60 ≤ (hI (h) (86) 20).toNatClampNeg
      · rw [if_pos hg5] at hp; cases hp
      rw [if_neg hg5] at hp
      refine e_iastore f212_30 (WF.t w 100 (by decide)) (WF.n w 100 (by decide)) hg5 ?_
      refine e_aload_n f212_31 rfl ?_
      refine e_getR f212_32 (WF.t w 86 (by decide)) rfl (WF.r (q := 101) w 86 23 (by decide)) ?_
      refine e_aload_n f212_35 rfl ?_
      refine e_getI f212_36 (WF.t w 86 (by decide)) (by decide) ?_
      refine e_iconst (v := -1) f212_39 (by decide) ?_
      by_cases hg6 : (hI (hsI (h) (100) (hI (h) (86) 20).toNatClampNeg (a0)) (86) 20) < (0 : Int32) ∨ 60 ≤ (hI (hsI (h) (100) (hI (h) (86) 20).toNatClampNeg (a0)) (86) 20).toNatClampNeg
      · rw [if_pos hg6] at hp; cases hp
      rw [if_neg hg6] at hp
      refine e_iastore f212_40 (WF.t w 101 (by decide)) (WF.n w 101 (by decide)) hg6 ?_
      obtain ⟨h7, e8, hp⟩ := bind_some hp
      try dsimp only at hp
      have e8 := Option.some.inj e8
      have w9 : WF h7 := e8 ▸ w
      rw [e8]
      refine e_aload_n f212_41 rfl ?_
      refine e_dup f212_42 rfl ?_
      refine e_getI f212_43 (WF.t w9 86 (by decide)) (by decide) ?_
      refine e_iconst (v := 1) f212_46 (by decide) ?_
      refine e_iadd f212_47 ?_
      refine e_putI f212_48 (WF.t w9 86 (by decide)) rfl ?_
      refine e_aload_n f212_51 rfl ?_
      refine e_getI f212_52 (WF.t w9 86 (by decide)) (by decide) ?_
      refine e_iconst (v := 1) f212_55 (by decide) ?_
      refine e_isub f212_56 ?_
      have hp := Option.some.inj hp
      subst hp
      exact e_ireturn f212_57 (Or.inl rfl)
set_option maxRecDepth 100000 in
set_option maxHeartbeats 4000000 in
theorem p212_w (h : HS) (w : WF h) (a0 : Int32) (r : Int32 × HS) (hp : p212 h a0 = some r) : WF r.2 := by
  unfold p212 at hp
  by_cases hc1 : (hI (h) (86) 20) = ((60) : Int32)
  · rw [if_pos hc1] at hp
    have hp := Option.some.inj hp
    subst hp
    exact (w)
  · rw [if_neg hc1] at hp
    obtain ⟨r2, hr3, hp⟩ := bind_some hp
    try dsimp only at hp
    by_cases hc4 : (r2) = (0 : Int32)
    · rw [if_pos hc4] at hp
      have hp := Option.some.inj hp
      subst hp
      exact (w)
    · rw [if_neg hc4] at hp
      by_cases hg5 : (hI (h) (86) 20) < (0 : Int32) ∨ 60 ≤ (hI (h) (86) 20).toNatClampNeg
      · rw [if_pos hg5] at hp; cases hp
      rw [if_neg hg5] at hp
      by_cases hg6 : (hI (hsI (h) (100) (hI (h) (86) 20).toNatClampNeg (a0)) (86) 20) < (0 : Int32) ∨ 60 ≤ (hI (hsI (h) (100) (hI (h) (86) 20).toNatClampNeg (a0)) (86) 20).toNatClampNeg
      · rw [if_pos hg6] at hp; cases hp
      rw [if_neg hg6] at hp
      obtain ⟨h7, e8, hp⟩ := bind_some hp
      try dsimp only at hp
      have e8 := Option.some.inj e8
      have w9 : WF h7 := e8 ▸ w
      have hp := Option.some.inj hp
      subst hp
      exact (w9)
theorem f213_0 : fetch 213 0 = some (.iload_n 1, 0, 0, 0) := rfl
theorem f213_1 : fetch 213 1 = some (.iconst 0, 0, 0, 0) := rfl
theorem f213_2 : fetch 213 2 = some (.aload_n 0, 0, 0, 0) := rfl
theorem f213_3 : fetch 213 3 = some (.getfield 314, 12, 20, 0) := rfl
theorem f213_6 : fetch 213 6 = some (.iconst 1, 0, 0, 0) := rfl
theorem f213_7 : fetch 213 7 = some (.isub, 0, 0, 0) := rfl
theorem f213_8 : fetch 213 8 = some (.invokestatic 240, 187, 3, 1) := rfl
theorem f213_11 : fetch 213 11 = some (.ireturn, 0, 0, 1) := rfl
set_option maxRecDepth 100000 in
set_option maxHeartbeats 4000000 in
theorem p213_ok (d : Nat) (h : HS) (w : WF h) (a0 : Int32) (r : Int32) (hp : p213 h a0 = some r) : ex (d + 1) 213 (ent 213 [.ref (86), .int (a0)] h) = some (some (.int (r)), h) := by
  rw [show ent 213 [.ref (86), .int (a0)] h = (0, [some (.ref (86)), some (.int (a0))], [], h) from by  rfl]
  refine ex_weak (ls := [some (.ref (86)), some (.int (a0))]) (le2_ok ⟨Or.inr rfl, Or.inr rfl, trivial⟩) ?_
  unfold p213 at hp
  refine e_iload_n f213_0 rfl ?_
  refine e_iconst (v := 0) f213_1 (by decide) ?_
  refine e_aload_n f213_2 rfl ?_
  refine e_getI f213_3 (WF.t w 86 (by decide)) (by decide) ?_
  refine e_iconst (v := 1) f213_6 (by decide) ?_
  refine e_isub f213_7 ?_
  obtain ⟨r1, hr2, hp⟩ := bind_some hp
  try dsimp only at hp
  refine e_callS (st := []) (as := [.int (a0), .int (0), .int ((hI (h) (86) 20) - (1))]) f213_8 (by decide) rfl rfl (Nat.le_of_ble_eq_true rfl) (Nat.le_of_ble_eq_true rfl) (p187_ok d (h) w (a0) (0) ((hI (h) (86) 20) - (1)) r1 hr2) ?_
  show ex _ 213 (11, [some (.ref (86)), some (.int (a0))], [.int (r1)], h) = _
  by_cases hg3 : (r1) = (0 : Int32) ∨ (r1) = (1 : Int32)
  rotate_left
  · rw [if_neg hg3] at hp; cases hp
  rw [if_pos hg3] at hp
  have hp := Option.some.inj hp
  subst hp
  exact e_ireturn f213_11 (Or.inr hg3)
theorem f214_0 : fetch 214 0 = some (.aload_n 0, 0, 0, 0) := rfl
theorem f214_1 : fetch 214 1 = some (.getfield 317, 12, 21, 0) := rfl
theorem f214_4 : fetch 214 4 = some (.sipush 400, 0, 0, 0) := rfl
theorem f214_7 : fetch 214 7 = some (.if_icmp .eq 42, 49, 0, 0) := rfl
theorem f214_10 : fetch 214 10 = some (.aload_n 0, 0, 0, 0) := rfl
theorem f214_11 : fetch 214 11 = some (.iload_n 1, 0, 0, 0) := rfl
theorem f214_12 : fetch 214 12 = some (.invokevirtual 320, 213, 1, 0) := rfl
theorem f214_15 : fetch 214 15 = some (.ifCond .eq 34, 49, 0, 0) := rfl
theorem f214_18 : fetch 214 18 = some (.iload_n 2, 0, 0, 0) := rfl
theorem f214_19 : fetch 214 19 = some (.iconst 0, 0, 0, 0) := rfl
theorem f214_20 : fetch 214 20 = some (.bipush 99, 0, 0, 0) := rfl
theorem f214_22 : fetch 214 22 = some (.invokestatic 240, 187, 3, 1) := rfl
theorem f214_25 : fetch 214 25 = some (.ifCond .eq 24, 49, 0, 0) := rfl
theorem f214_28 : fetch 214 28 = some (.iload_n 3, 0, 0, 0) := rfl
theorem f214_29 : fetch 214 29 = some (.invokestatic 323, 189, 1, 1) := rfl
theorem f214_32 : fetch 214 32 = some (.ifCond .eq 17, 49, 0, 0) := rfl
theorem f214_35 : fetch 214 35 = some (.iload 4, 0, 0, 0) := rfl
theorem f214_37 : fetch 214 37 = some (.invokestatic 323, 189, 1, 1) := rfl
theorem f214_40 : fetch 214 40 = some (.ifCond .eq 9, 49, 0, 0) := rfl
theorem f214_43 : fetch 214 43 = some (.iload_n 3, 0, 0, 0) := rfl
theorem f214_44 : fetch 214 44 = some (.iload 4, 0, 0, 0) := rfl
theorem f214_46 : fetch 214 46 = some (.if_icmp .le 5, 51, 0, 0) := rfl
theorem f214_49 : fetch 214 49 = some (.iconst (-1), 0, 0, 0) := rfl
theorem f214_50 : fetch 214 50 = some (.ireturn, 0, 0, 0) := rfl
theorem f214_51 : fetch 214 51 = some (.aload_n 0, 0, 0, 0) := rfl
theorem f214_52 : fetch 214 52 = some (.getfield 58, 12, 25, 2) := rfl
theorem f214_55 : fetch 214 55 = some (.aload_n 0, 0, 0, 0) := rfl
theorem f214_56 : fetch 214 56 = some (.getfield 317, 12, 21, 0) := rfl
theorem f214_59 : fetch 214 59 = some (.iload_n 1, 0, 0, 0) := rfl
theorem f214_60 : fetch 214 60 = some (.iastore, 0, 0, 0) := rfl
theorem f214_61 : fetch 214 61 = some (.aload_n 0, 0, 0, 0) := rfl
theorem f214_62 : fetch 214 62 = some (.getfield 61, 12, 26, 2) := rfl
theorem f214_65 : fetch 214 65 = some (.aload_n 0, 0, 0, 0) := rfl
theorem f214_66 : fetch 214 66 = some (.getfield 317, 12, 21, 0) := rfl
theorem f214_69 : fetch 214 69 = some (.iload_n 2, 0, 0, 0) := rfl
theorem f214_70 : fetch 214 70 = some (.iastore, 0, 0, 0) := rfl
theorem f214_71 : fetch 214 71 = some (.aload_n 0, 0, 0, 0) := rfl
theorem f214_72 : fetch 214 72 = some (.getfield 64, 12, 27, 2) := rfl
theorem f214_75 : fetch 214 75 = some (.aload_n 0, 0, 0, 0) := rfl
theorem f214_76 : fetch 214 76 = some (.getfield 317, 12, 21, 0) := rfl
theorem f214_79 : fetch 214 79 = some (.iload_n 3, 0, 0, 0) := rfl
theorem f214_80 : fetch 214 80 = some (.iastore, 0, 0, 0) := rfl
theorem f214_81 : fetch 214 81 = some (.aload_n 0, 0, 0, 0) := rfl
theorem f214_82 : fetch 214 82 = some (.getfield 67, 12, 28, 2) := rfl
theorem f214_85 : fetch 214 85 = some (.aload_n 0, 0, 0, 0) := rfl
theorem f214_86 : fetch 214 86 = some (.getfield 317, 12, 21, 0) := rfl
theorem f214_89 : fetch 214 89 = some (.iload 4, 0, 0, 0) := rfl
theorem f214_91 : fetch 214 91 = some (.iastore, 0, 0, 0) := rfl
theorem f214_92 : fetch 214 92 = some (.aload_n 0, 0, 0, 0) := rfl
theorem f214_93 : fetch 214 93 = some (.getfield 70, 12, 29, 2) := rfl
theorem f214_96 : fetch 214 96 = some (.aload_n 0, 0, 0, 0) := rfl
theorem f214_97 : fetch 214 97 = some (.getfield 317, 12, 21, 0) := rfl
theorem f214_100 : fetch 214 100 = some (.aload_n 0, 0, 0, 0) := rfl
theorem f214_101 : fetch 214 101 = some (.getfield 244, 12, 1, 0) := rfl
theorem f214_104 : fetch 214 104 = some (.iastore, 0, 0, 0) := rfl
theorem f214_105 : fetch 214 105 = some (.aload_n 0, 0, 0, 0) := rfl
theorem f214_106 : fetch 214 106 = some (.getfield 73, 12, 30, 2) := rfl
theorem f214_109 : fetch 214 109 = some (.aload_n 0, 0, 0, 0) := rfl
theorem f214_110 : fetch 214 110 = some (.getfield 317, 12, 21, 0) := rfl
theorem f214_113 : fetch 214 113 = some (.ldc_w 290, 0, 0, 100000) := rfl
theorem f214_116 : fetch 214 116 = some (.iastore, 0, 0, 0) := rfl
theorem f214_117 : fetch 214 117 = some (.aload_n 0, 0, 0, 0) := rfl
theorem f214_118 : fetch 214 118 = some (.dup, 0, 0, 0) := rfl
theorem f214_119 : fetch 214 119 = some (.getfield 317, 12, 21, 0) := rfl
theorem f214_122 : fetch 214 122 = some (.iconst 1, 0, 0, 0) := rfl
theorem f214_123 : fetch 214 123 = some (.iadd, 0, 0, 0) := rfl
theorem f214_124 : fetch 214 124 = some (.putfield 317, 12, 21, 0) := rfl
theorem f214_127 : fetch 214 127 = some (.aload_n 0, 0, 0, 0) := rfl
theorem f214_128 : fetch 214 128 = some (.getfield 317, 12, 21, 0) := rfl
theorem f214_131 : fetch 214 131 = some (.iconst 1, 0, 0, 0) := rfl
theorem f214_132 : fetch 214 132 = some (.isub, 0, 0, 0) := rfl
theorem f214_133 : fetch 214 133 = some (.ireturn, 0, 0, 0) := rfl
set_option maxRecDepth 100000 in
set_option maxHeartbeats 4000000 in
theorem p214_ok (d : Nat) (h : HS) (w : WF h) (a0 : Int32) (a1 : Int32) (a2 : Int32) (a3 : Int32) (r : Int32 × HS) (hp : p214 h a0 a1 a2 a3 = some r) : ex (d + 2) 214 (ent 214 [.ref (86), .int (a0), .int (a1), .int (a2), .int (a3)] h) = some (some (.int (r.1)), r.2) := by
  rw [show ent 214 [.ref (86), .int (a0), .int (a1), .int (a2), .int (a3)] h = (0, [some (.ref (86)), some (.int (a0)), some (.int (a1)), some (.int (a2)), some (.int (a3))], [], h) from by  rfl]
  refine ex_weak (ls := [some (.ref (86)), some (.int (a0)), some (.int (a1)), some (.int (a2)), some (.int (a3))]) (le2_ok ⟨Or.inr rfl, Or.inr rfl, Or.inr rfl, Or.inr rfl, Or.inr rfl, trivial⟩) ?_
  unfold p214 at hp
  refine e_aload_n f214_0 rfl ?_
  refine e_getI f214_1 (WF.t w 86 (by decide)) (by decide) ?_
  refine e_sipush (v := 400) f214_4 (by decide) ?_
  by_cases hc1 : (hI (h) (86) 21) = ((400) : Int32)
  · rw [if_pos hc1] at hp
    refine e_icmp_eq_t f214_7 hc1 ?_
    refine e_iconst (v := -1) f214_49 (by decide) ?_
    have hp := Option.some.inj hp
    subst hp
    exact e_ireturn f214_50 (Or.inl rfl)
  · rw [if_neg hc1] at hp
    refine e_icmp_eq_f f214_7 hc1 ?_
    refine e_aload_n f214_10 rfl ?_
    refine e_iload_n f214_11 rfl ?_
    obtain ⟨r2, hr3, hp⟩ := bind_some hp
    try dsimp only at hp
    refine e_callV (st := []) (o := 86) (as := [.int (a0)]) f214_12 (by decide) rfl rfl (Nat.le_of_ble_eq_true rfl) (WF.t w 86 (by decide)) (Nat.le_of_ble_eq_true rfl) (p213_ok d (h) w (a0) r2 hr3) ?_
    show ex _ 214 (15, [some (.ref (86)), some (.int (a0)), some (.int (a1)), some (.int (a2)), some (.int (a3))], [.int (r2)], h) = _
    by_cases hc4 : (r2) = (0 : Int32)
    · rw [if_pos hc4] at hp
      refine e_if_eq_t f214_15 hc4 ?_
      refine e_iconst (v := -1) f214_49 (by decide) ?_
      have hp := Option.some.inj hp
      subst hp
      exact e_ireturn f214_50 (Or.inl rfl)
    · rw [if_neg hc4] at hp
      refine e_if_eq_f f214_15 hc4 ?_
      refine e_iload_n f214_18 rfl ?_
      refine e_iconst (v := 0) f214_19 (by decide) ?_
      refine e_bipush (v := 99) f214_20 (by decide) ?_
      obtain ⟨r5, hr6, hp⟩ := bind_some hp
      try dsimp only at hp
      refine e_callS (st := []) (as := [.int (a1), .int (0), .int (99)]) f214_22 (by decide) rfl rfl (Nat.le_of_ble_eq_true rfl) (Nat.le_of_ble_eq_true rfl) (p187_ok (d + 1) (h) w (a1) (0) (99) r5 hr6) ?_
      show ex _ 214 (25, [some (.ref (86)), some (.int (a0)), some (.int (a1)), some (.int (a2)), some (.int (a3))], [.int (r5)], h) = _
      by_cases hc7 : (r5) = (0 : Int32)
      · rw [if_pos hc7] at hp
        refine e_if_eq_t f214_25 hc7 ?_
        refine e_iconst (v := -1) f214_49 (by decide) ?_
        have hp := Option.some.inj hp
        subst hp
        exact e_ireturn f214_50 (Or.inl rfl)
      · rw [if_neg hc7] at hp
        refine e_if_eq_f f214_25 hc7 ?_
        refine e_iload_n f214_28 rfl ?_
        obtain ⟨r8, hr9, hp⟩ := bind_some hp
        try dsimp only at hp
        refine e_callS (st := []) (as := [.int (a2)]) f214_29 (by decide) rfl rfl (Nat.le_of_ble_eq_true rfl) (Nat.le_of_ble_eq_true rfl) (p189_ok d (h) w (a2) r8 hr9) ?_
        show ex _ 214 (32, [some (.ref (86)), some (.int (a0)), some (.int (a1)), some (.int (a2)), some (.int (a3))], [.int (r8)], h) = _
        by_cases hc10 : (r8) = (0 : Int32)
        · rw [if_pos hc10] at hp
          refine e_if_eq_t f214_32 hc10 ?_
          refine e_iconst (v := -1) f214_49 (by decide) ?_
          have hp := Option.some.inj hp
          subst hp
          exact e_ireturn f214_50 (Or.inl rfl)
        · rw [if_neg hc10] at hp
          refine e_if_eq_f f214_32 hc10 ?_
          refine e_iload f214_35 rfl ?_
          obtain ⟨r11, hr12, hp⟩ := bind_some hp
          try dsimp only at hp
          refine e_callS (st := []) (as := [.int (a3)]) f214_37 (by decide) rfl rfl (Nat.le_of_ble_eq_true rfl) (Nat.le_of_ble_eq_true rfl) (p189_ok d (h) w (a3) r11 hr12) ?_
          show ex _ 214 (40, [some (.ref (86)), some (.int (a0)), some (.int (a1)), some (.int (a2)), some (.int (a3))], [.int (r11)], h) = _
          by_cases hc13 : (r11) = (0 : Int32)
          · rw [if_pos hc13] at hp
            refine e_if_eq_t f214_40 hc13 ?_
            refine e_iconst (v := -1) f214_49 (by decide) ?_
            have hp := Option.some.inj hp
            subst hp
            exact e_ireturn f214_50 (Or.inl rfl)
          · rw [if_neg hc13] at hp
            refine e_if_eq_f f214_40 hc13 ?_
            refine e_iload_n f214_43 rfl ?_
            refine e_iload f214_44 rfl ?_
            by_cases hc14 : (a3) < ((a2) : Int32)
            · rw [if_pos hc14] at hp
              refine e_icmp_le_f f214_46 hc14 ?_
              refine e_iconst (v := -1) f214_49 (by decide) ?_
              have hp := Option.some.inj hp
              subst hp
              exact e_ireturn f214_50 (Or.inl rfl)
            · rw [if_neg hc14] at hp
              refine e_icmp_le_t f214_46 hc14 ?_
              refine e_aload_n f214_51 rfl ?_
              refine e_getR f214_52 (WF.t w 86 (by decide)) rfl (WF.r (q := 103) w 86 25 (by decide)) ?_
              refine e_aload_n f214_55 rfl ?_
              refine e_getI f214_56 (WF.t w 86 (by decide)) (by decide) ?_
              refine e_iload_n f214_59 rfl ?_
              by_cases hg15 : (hI (h) (86) 21) < (0 : Int32) ∨ 400 ≤ (hI (h) (86) 21).toNatClampNeg
              · rw [if_pos hg15] at hp; cases hp
              rw [if_neg hg15] at hp
              refine e_iastore f214_60 (WF.t w 103 (by decide)) (WF.n w 103 (by decide)) hg15 ?_
              refine e_aload_n f214_61 rfl ?_
              refine e_getR f214_62 (WF.t w 86 (by decide)) rfl (WF.r (q := 104) w 86 26 (by decide)) ?_
              refine e_aload_n f214_65 rfl ?_
              refine e_getI f214_66 (WF.t w 86 (by decide)) (by decide) ?_
              refine e_iload_n f214_69 rfl ?_
              by_cases hg16 : (hI (hsI (h) (103) (hI (h) (86) 21).toNatClampNeg (a0)) (86) 21) < (0 : Int32) ∨ 400 ≤ (hI (hsI (h) (103) (hI (h) (86) 21).toNatClampNeg (a0)) (86) 21).toNatClampNeg
              · rw [if_pos hg16] at hp; cases hp
              rw [if_neg hg16] at hp
              refine e_iastore f214_70 (WF.t w 104 (by decide)) (WF.n w 104 (by decide)) hg16 ?_
              obtain ⟨h17, e18, hp⟩ := bind_some hp
              try dsimp only at hp
              have e18 := Option.some.inj e18
              have w19 : WF h17 := e18 ▸ w
              rw [e18]
              refine e_aload_n f214_71 rfl ?_
              refine e_getR f214_72 (WF.t w19 86 (by decide)) rfl (WF.r (q := 105) w19 86 27 (by decide)) ?_
              refine e_aload_n f214_75 rfl ?_
              refine e_getI f214_76 (WF.t w19 86 (by decide)) (by decide) ?_
              refine e_iload_n f214_79 rfl ?_
              by_cases hg20 : (hI (h17) (86) 21) < (0 : Int32) ∨ 400 ≤ (hI (h17) (86) 21).toNatClampNeg
              · rw [if_pos hg20] at hp; cases hp
              rw [if_neg hg20] at hp
              refine e_iastore f214_80 (WF.t w19 105 (by decide)) (WF.n w19 105 (by decide)) hg20 ?_
              refine e_aload_n f214_81 rfl ?_
              refine e_getR f214_82 (WF.t w19 86 (by decide)) rfl (WF.r (q := 106) w19 86 28 (by decide)) ?_
              refine e_aload_n f214_85 rfl ?_
              refine e_getI f214_86 (WF.t w19 86 (by decide)) (by decide) ?_
              refine e_iload f214_89 rfl ?_
              by_cases hg21 : (hI (hsI (h17) (105) (hI (h17) (86) 21).toNatClampNeg (a2)) (86) 21) < (0 : Int32) ∨ 400 ≤ (hI (hsI (h17) (105) (hI (h17) (86) 21).toNatClampNeg (a2)) (86) 21).toNatClampNeg
              · rw [if_pos hg21] at hp; cases hp
              rw [if_neg hg21] at hp
              refine e_iastore f214_91 (WF.t w19 106 (by decide)) (WF.n w19 106 (by decide)) hg21 ?_
              obtain ⟨h22, e23, hp⟩ := bind_some hp
              try dsimp only at hp
              have e23 := Option.some.inj e23
              have w24 : WF h22 := e23 ▸ w19
              rw [e23]
              refine e_aload_n f214_92 rfl ?_
              refine e_getR f214_93 (WF.t w24 86 (by decide)) rfl (WF.r (q := 107) w24 86 29 (by decide)) ?_
              refine e_aload_n f214_96 rfl ?_
              refine e_getI f214_97 (WF.t w24 86 (by decide)) (by decide) ?_
              refine e_aload_n f214_100 rfl ?_
              refine e_getI f214_101 (WF.t w24 86 (by decide)) (by decide) ?_
              by_cases hg25 : (hI (h22) (86) 21) < (0 : Int32) ∨ 400 ≤ (hI (h22) (86) 21).toNatClampNeg
              · rw [if_pos hg25] at hp; cases hp
              rw [if_neg hg25] at hp
              refine e_iastore f214_104 (WF.t w24 107 (by decide)) (WF.n w24 107 (by decide)) hg25 ?_
              refine e_aload_n f214_105 rfl ?_
              refine e_getR f214_106 (WF.t w24 86 (by decide)) rfl (WF.r (q := 108) w24 86 30 (by decide)) ?_
              refine e_aload_n f214_109 rfl ?_
              refine e_getI f214_110 (WF.t w24 86 (by decide)) (by decide) ?_
              refine e_ldcw (v := 100000) f214_113 (by decide) (by decide) ?_
              by_cases hg26 : (hI (hsI (h22) (107) (hI (h22) (86) 21).toNatClampNeg (hI (h22) (86) 1)) (86) 21) < (0 : Int32) ∨ 400 ≤ (hI (hsI (h22) (107) (hI (h22) (86) 21).toNatClampNeg (hI (h22) (86) 1)) (86) 21).toNatClampNeg
              · rw [if_pos hg26] at hp; cases hp
              rw [if_neg hg26] at hp
              refine e_iastore f214_116 (WF.t w24 108 (by decide)) (WF.n w24 108 (by decide)) hg26 ?_
              obtain ⟨h27, e28, hp⟩ := bind_some hp
              try dsimp only at hp
              have e28 := Option.some.inj e28
              have w29 : WF h27 := e28 ▸ w24
              rw [e28]
              refine e_aload_n f214_117 rfl ?_
              refine e_dup f214_118 rfl ?_
              refine e_getI f214_119 (WF.t w29 86 (by decide)) (by decide) ?_
              refine e_iconst (v := 1) f214_122 (by decide) ?_
              refine e_iadd f214_123 ?_
              refine e_putI f214_124 (WF.t w29 86 (by decide)) rfl ?_
              refine e_aload_n f214_127 rfl ?_
              refine e_getI f214_128 (WF.t w29 86 (by decide)) (by decide) ?_
              refine e_iconst (v := 1) f214_131 (by decide) ?_
              refine e_isub f214_132 ?_
              have hp := Option.some.inj hp
              subst hp
              exact e_ireturn f214_133 (Or.inl rfl)
set_option maxRecDepth 100000 in
set_option maxHeartbeats 4000000 in
theorem p214_w (h : HS) (w : WF h) (a0 : Int32) (a1 : Int32) (a2 : Int32) (a3 : Int32) (r : Int32 × HS) (hp : p214 h a0 a1 a2 a3 = some r) : WF r.2 := by
  unfold p214 at hp
  by_cases hc1 : (hI (h) (86) 21) = ((400) : Int32)
  · rw [if_pos hc1] at hp
    have hp := Option.some.inj hp
    subst hp
    exact (w)
  · rw [if_neg hc1] at hp
    obtain ⟨r2, hr3, hp⟩ := bind_some hp
    try dsimp only at hp
    by_cases hc4 : (r2) = (0 : Int32)
    · rw [if_pos hc4] at hp
      have hp := Option.some.inj hp
      subst hp
      exact (w)
    · rw [if_neg hc4] at hp
      obtain ⟨r5, hr6, hp⟩ := bind_some hp
      try dsimp only at hp
      by_cases hc7 : (r5) = (0 : Int32)
      · rw [if_pos hc7] at hp
        have hp := Option.some.inj hp
        subst hp
        exact (w)
      · rw [if_neg hc7] at hp
        obtain ⟨r8, hr9, hp⟩ := bind_some hp
        try dsimp only at hp
        by_cases hc10 : (r8) = (0 : Int32)
        · rw [if_pos hc10] at hp
          have hp := Option.some.inj hp
          subst hp
          exact (w)
        · rw [if_neg hc10] at hp
          obtain ⟨r11, hr12, hp⟩ := bind_some hp
          try dsimp only at hp
          by_cases hc13 : (r11) = (0 : Int32)
          · rw [if_pos hc13] at hp
            have hp := Option.some.inj hp
            subst hp
            exact (w)
          · rw [if_neg hc13] at hp
            by_cases hc14 : (a3) < ((a2) : Int32)
            · rw [if_pos hc14] at hp
              have hp := Option.some.inj hp
              subst hp
              exact (w)
            · rw [if_neg hc14] at hp
              by_cases hg15 : (hI (h) (86) 21) < (0 : Int32) ∨ 400 ≤ (hI (h) (86) 21).toNatClampNeg
              · rw [if_pos hg15] at hp; cases hp
              rw [if_neg hg15] at hp
              by_cases hg16 : (hI (hsI (h) (103) (hI (h) (86) 21).toNatClampNeg (a0)) (86) 21) < (0 : Int32) ∨ 400 ≤ (hI (hsI (h) (103) (hI (h) (86) 21).toNatClampNeg (a0)) (86) 21).toNatClampNeg
              · rw [if_pos hg16] at hp; cases hp
              rw [if_neg hg16] at hp
              obtain ⟨h17, e18, hp⟩ := bind_some hp
              try dsimp only at hp
              have e18 := Option.some.inj e18
              have w19 : WF h17 := e18 ▸ w
              by_cases hg20 : (hI (h17) (86) 21) < (0 : Int32) ∨ 400 ≤ (hI (h17) (86) 21).toNatClampNeg
              · rw [if_pos hg20] at hp; cases hp
              rw [if_neg hg20] at hp
              by_cases hg21 : (hI (hsI (h17) (105) (hI (h17) (86) 21).toNatClampNeg (a2)) (86) 21) < (0 : Int32) ∨ 400 ≤ (hI (hsI (h17) (105) (hI (h17) (86) 21).toNatClampNeg (a2)) (86) 21).toNatClampNeg
              · rw [if_pos hg21] at hp; cases hp
              rw [if_neg hg21] at hp
              obtain ⟨h22, e23, hp⟩ := bind_some hp
              try dsimp only at hp
              have e23 := Option.some.inj e23
              have w24 : WF h22 := e23 ▸ w19
              by_cases hg25 : (hI (h22) (86) 21) < (0 : Int32) ∨ 400 ≤ (hI (h22) (86) 21).toNatClampNeg
              · rw [if_pos hg25] at hp; cases hp
              rw [if_neg hg25] at hp
              by_cases hg26 : (hI (hsI (h22) (107) (hI (h22) (86) 21).toNatClampNeg (hI (h22) (86) 1)) (86) 21) < (0 : Int32) ∨ 400 ≤ (hI (hsI (h22) (107) (hI (h22) (86) 21).toNatClampNeg (hI (h22) (86) 1)) (86) 21).toNatClampNeg
              · rw [if_pos hg26] at hp; cases hp
              rw [if_neg hg26] at hp
              obtain ⟨h27, e28, hp⟩ := bind_some hp
              try dsimp only at hp
              have e28 := Option.some.inj e28
              have w29 : WF h27 := e28 ▸ w24
              have hp := Option.some.inj hp
              subst hp
              exact (w29)
theorem f215_0 : fetch 215 0 = some (.iload_n 1, 0, 0, 0) := rfl
theorem f215_1 : fetch 215 1 = some (.iconst 0, 0, 0, 0) := rfl
theorem f215_2 : fetch 215 2 = some (.aload_n 0, 0, 0, 0) := rfl
theorem f215_3 : fetch 215 3 = some (.getfield 317, 12, 21, 0) := rfl
theorem f215_6 : fetch 215 6 = some (.iconst 1, 0, 0, 0) := rfl
theorem f215_7 : fetch 215 7 = some (.isub, 0, 0, 0) := rfl
theorem f215_8 : fetch 215 8 = some (.invokestatic 240, 187, 3, 1) := rfl
theorem f215_11 : fetch 215 11 = some (.ifCond .eq 15, 26, 0, 0) := rfl
theorem f215_14 : fetch 215 14 = some (.aload_n 0, 0, 0, 0) := rfl
theorem f215_15 : fetch 215 15 = some (.getfield 73, 12, 30, 2) := rfl
theorem f215_18 : fetch 215 18 = some (.iload_n 1, 0, 0, 0) := rfl
theorem f215_19 : fetch 215 19 = some (.iaload, 0, 0, 0) := rfl
theorem f215_20 : fetch 215 20 = some (.ldc_w 290, 0, 0, 100000) := rfl
theorem f215_23 : fetch 215 23 = some (.if_icmp .eq 5, 28, 0, 0) := rfl
theorem f215_26 : fetch 215 26 = some (.iconst 0, 0, 0, 0) := rfl
theorem f215_27 : fetch 215 27 = some (.ireturn, 0, 0, 1) := rfl
theorem f215_28 : fetch 215 28 = some (.aload_n 0, 0, 0, 0) := rfl
theorem f215_29 : fetch 215 29 = some (.getfield 73, 12, 30, 2) := rfl
theorem f215_32 : fetch 215 32 = some (.iload_n 1, 0, 0, 0) := rfl
theorem f215_33 : fetch 215 33 = some (.aload_n 0, 0, 0, 0) := rfl
theorem f215_34 : fetch 215 34 = some (.getfield 244, 12, 1, 0) := rfl
theorem f215_37 : fetch 215 37 = some (.iastore, 0, 0, 0) := rfl
theorem f215_38 : fetch 215 38 = some (.iconst 1, 0, 0, 0) := rfl
theorem f215_39 : fetch 215 39 = some (.ireturn, 0, 0, 1) := rfl
set_option maxRecDepth 100000 in
set_option maxHeartbeats 4000000 in
theorem p215_ok (d : Nat) (h : HS) (w : WF h) (a0 : Int32) (r : Int32 × HS) (hp : p215 h a0 = some r) : ex (d + 1) 215 (ent 215 [.ref (86), .int (a0)] h) = some (some (.int (r.1)), r.2) := by
  rw [show ent 215 [.ref (86), .int (a0)] h = (0, [some (.ref (86)), some (.int (a0))], [], h) from by  rfl]
  refine ex_weak (ls := [some (.ref (86)), some (.int (a0))]) (le2_ok ⟨Or.inr rfl, Or.inr rfl, trivial⟩) ?_
  unfold p215 at hp
  refine e_iload_n f215_0 rfl ?_
  refine e_iconst (v := 0) f215_1 (by decide) ?_
  refine e_aload_n f215_2 rfl ?_
  refine e_getI f215_3 (WF.t w 86 (by decide)) (by decide) ?_
  refine e_iconst (v := 1) f215_6 (by decide) ?_
  refine e_isub f215_7 ?_
  obtain ⟨r1, hr2, hp⟩ := bind_some hp
  try dsimp only at hp
  refine e_callS (st := []) (as := [.int (a0), .int (0), .int ((hI (h) (86) 21) - (1))]) f215_8 (by decide) rfl rfl (Nat.le_of_ble_eq_true rfl) (Nat.le_of_ble_eq_true rfl) (p187_ok d (h) w (a0) (0) ((hI (h) (86) 21) - (1)) r1 hr2) ?_
  show ex _ 215 (11, [some (.ref (86)), some (.int (a0))], [.int (r1)], h) = _
  by_cases hc3 : (r1) = (0 : Int32)
  · rw [if_pos hc3] at hp
    refine e_if_eq_t f215_11 hc3 ?_
    refine e_iconst (v := 0) f215_26 (by decide) ?_
    have hp := Option.some.inj hp
    subst hp
    exact e_ireturn f215_27 (by decide)
  · rw [if_neg hc3] at hp
    refine e_if_eq_f f215_11 hc3 ?_
    refine e_aload_n f215_14 rfl ?_
    refine e_getR f215_15 (WF.t w 86 (by decide)) rfl (WF.r (q := 108) w 86 30 (by decide)) ?_
    refine e_iload_n f215_18 rfl ?_
    by_cases hg4 : (a0) < (0 : Int32) ∨ 400 ≤ (a0).toNatClampNeg
    · rw [if_pos hg4] at hp; cases hp
    rw [if_neg hg4] at hp
    refine e_iaload f215_19 (Or.inl (WF.t w 108 (by decide))) (WF.n w 108 (by decide)) hg4 ?_
    refine e_ldcw (v := 100000) f215_20 (by decide) (by decide) ?_
    by_cases hc5 : (hI (h) (108) (a0).toNatClampNeg) = ((100000) : Int32)
    · rw [if_pos hc5] at hp
      refine e_icmp_eq_t f215_23 hc5 ?_
      refine e_aload_n f215_28 rfl ?_
      refine e_getR f215_29 (WF.t w 86 (by decide)) rfl (WF.r (q := 108) w 86 30 (by decide)) ?_
      refine e_iload_n f215_32 rfl ?_
      refine e_aload_n f215_33 rfl ?_
      refine e_getI f215_34 (WF.t w 86 (by decide)) (by decide) ?_
      by_cases hg6 : (a0) < (0 : Int32) ∨ 400 ≤ (a0).toNatClampNeg
      · rw [if_pos hg6] at hp; cases hp
      rw [if_neg hg6] at hp
      refine e_iastore f215_37 (WF.t w 108 (by decide)) (WF.n w 108 (by decide)) hg6 ?_
      refine e_iconst (v := 1) f215_38 (by decide) ?_
      have hp := Option.some.inj hp
      subst hp
      exact e_ireturn f215_39 (by decide)
    · rw [if_neg hc5] at hp
      refine e_icmp_eq_f f215_23 hc5 ?_
      refine e_iconst (v := 0) f215_26 (by decide) ?_
      have hp := Option.some.inj hp
      subst hp
      exact e_ireturn f215_27 (by decide)
set_option maxRecDepth 100000 in
set_option maxHeartbeats 4000000 in
theorem p215_w (h : HS) (w : WF h) (a0 : Int32) (r : Int32 × HS) (hp : p215 h a0 = some r) : WF r.2 := by
  unfold p215 at hp
  obtain ⟨r1, hr2, hp⟩ := bind_some hp
  try dsimp only at hp
  by_cases hc3 : (r1) = (0 : Int32)
  · rw [if_pos hc3] at hp
    have hp := Option.some.inj hp
    subst hp
    exact (w)
  · rw [if_neg hc3] at hp
    by_cases hg4 : (a0) < (0 : Int32) ∨ 400 ≤ (a0).toNatClampNeg
    · rw [if_pos hg4] at hp; cases hp
    rw [if_neg hg4] at hp
    by_cases hc5 : (hI (h) (108) (a0).toNatClampNeg) = ((100000) : Int32)
    · rw [if_pos hc5] at hp
      by_cases hg6 : (a0) < (0 : Int32) ∨ 400 ≤ (a0).toNatClampNeg
      · rw [if_pos hg6] at hp; cases hp
      rw [if_neg hg6] at hp
      have hp := Option.some.inj hp
      subst hp
      exact (w)
    · rw [if_neg hc5] at hp
      have hp := Option.some.inj hp
      subst hp
      exact (w)
theorem f216_0 : fetch 216 0 = some (.iconst 0, 0, 0, 0) := rfl
theorem f216_1 : fetch 216 1 = some (.istore 5, 0, 0, 0) := rfl
theorem f216_3 : fetch 216 3 = some (.iconst 0, 0, 0, 0) := rfl
theorem f216_4 : fetch 216 4 = some (.istore 6, 0, 0, 0) := rfl
theorem f216_6 : fetch 216 6 = some (.iconst 0, 0, 0, 0) := rfl
theorem f216_7 : fetch 216 7 = some (.istore 7, 0, 0, 0) := rfl
theorem f216_9 : fetch 216 9 = some (.iload 7, 0, 0, 0) := rfl
theorem f216_11 : fetch 216 11 = some (.aload_n 0, 0, 0, 0) := rfl
theorem f216_12 : fetch 216 12 = some (.getfield 317, 12, 21, 0) := rfl
theorem f216_15 : fetch 216 15 = some (.if_icmp .ge 91, 106, 0, 0) := rfl
theorem f216_18 : fetch 216 18 = some (.aload_n 0, 0, 0, 0) := rfl
theorem f216_19 : fetch 216 19 = some (.getfield 58, 12, 25, 2) := rfl
theorem f216_22 : fetch 216 22 = some (.iload 7, 0, 0, 0) := rfl
theorem f216_24 : fetch 216 24 = some (.iaload, 0, 0, 0) := rfl
theorem f216_25 : fetch 216 25 = some (.iload_n 1, 0, 0, 0) := rfl
theorem f216_26 : fetch 216 26 = some (.if_icmp .ne 74, 100, 0, 0) := rfl
theorem f216_29 : fetch 216 29 = some (.aload_n 0, 0, 0, 0) := rfl
theorem f216_30 : fetch 216 30 = some (.getfield 70, 12, 29, 2) := rfl
theorem f216_33 : fetch 216 33 = some (.iload 7, 0, 0, 0) := rfl
theorem f216_35 : fetch 216 35 = some (.iaload, 0, 0, 0) := rfl
theorem f216_36 : fetch 216 36 = some (.iload 4, 0, 0, 0) := rfl
theorem f216_38 : fetch 216 38 = some (.if_icmp .gt 62, 100, 0, 0) := rfl
theorem f216_41 : fetch 216 41 = some (.aload_n 0, 0, 0, 0) := rfl
theorem f216_42 : fetch 216 42 = some (.getfield 73, 12, 30, 2) := rfl
theorem f216_45 : fetch 216 45 = some (.iload 7, 0, 0, 0) := rfl
theorem f216_47 : fetch 216 47 = some (.iaload, 0, 0, 0) := rfl
theorem f216_48 : fetch 216 48 = some (.iload 4, 0, 0, 0) := rfl
theorem f216_50 : fetch 216 50 = some (.if_icmp .le 50, 100, 0, 0) := rfl
theorem f216_53 : fetch 216 53 = some (.iload_n 3, 0, 0, 0) := rfl
theorem f216_54 : fetch 216 54 = some (.aload_n 0, 0, 0, 0) := rfl
theorem f216_55 : fetch 216 55 = some (.getfield 64, 12, 27, 2) := rfl
theorem f216_58 : fetch 216 58 = some (.iload 7, 0, 0, 0) := rfl
theorem f216_60 : fetch 216 60 = some (.iaload, 0, 0, 0) := rfl
theorem f216_61 : fetch 216 61 = some (.aload_n 0, 0, 0, 0) := rfl
theorem f216_62 : fetch 216 62 = some (.getfield 67, 12, 28, 2) := rfl
theorem f216_65 : fetch 216 65 = some (.iload 7, 0, 0, 0) := rfl
theorem f216_67 : fetch 216 67 = some (.iaload, 0, 0, 0) := rfl
theorem f216_68 : fetch 216 68 = some (.invokestatic 240, 187, 3, 1) := rfl
theorem f216_71 : fetch 216 71 = some (.ifCond .eq 29, 100, 0, 0) := rfl
theorem f216_74 : fetch 216 74 = some (.iconst 1, 0, 0, 0) := rfl
theorem f216_75 : fetch 216 75 = some (.istore 5, 0, 0, 0) := rfl
theorem f216_77 : fetch 216 77 = some (.iload 6, 0, 0, 0) := rfl
theorem f216_79 : fetch 216 79 = some (.ifCond .ne 14, 93, 0, 0) := rfl
theorem f216_82 : fetch 216 82 = some (.aload_n 0, 0, 0, 0) := rfl
theorem f216_83 : fetch 216 83 = some (.getfield 61, 12, 26, 2) := rfl
theorem f216_86 : fetch 216 86 = some (.iload 7, 0, 0, 0) := rfl
theorem f216_88 : fetch 216 88 = some (.iaload, 0, 0, 0) := rfl
theorem f216_89 : fetch 216 89 = some (.iload_n 2, 0, 0, 0) := rfl
theorem f216_90 : fetch 216 90 = some (.if_icmp .ne 7, 97, 0, 0) := rfl
theorem f216_93 : fetch 216 93 = some (.iconst 1, 0, 0, 0) := rfl
theorem f216_94 : fetch 216 94 = some (.goto 4, 98, 0, 0) := rfl
theorem f216_97 : fetch 216 97 = some (.iconst 0, 0, 0, 0) := rfl
theorem f216_98 : fetch 216 98 = some (.istore 6, 0, 0, 0) := rfl
theorem f216_100 : fetch 216 100 = some (.iinc 7 1, 0, 0, 0) := rfl
theorem f216_103 : fetch 216 103 = some (.goto (-94), 9, 0, 0) := rfl
theorem f216_106 : fetch 216 106 = some (.iload 5, 0, 0, 0) := rfl
theorem f216_108 : fetch 216 108 = some (.ifCond .eq 12, 120, 0, 0) := rfl
theorem f216_111 : fetch 216 111 = some (.iload 6, 0, 0, 0) := rfl
theorem f216_113 : fetch 216 113 = some (.ifCond .ne 7, 120, 0, 0) := rfl
theorem f216_116 : fetch 216 116 = some (.iconst 1, 0, 0, 0) := rfl
theorem f216_117 : fetch 216 117 = some (.goto 4, 121, 0, 0) := rfl
theorem f216_120 : fetch 216 120 = some (.iconst 0, 0, 0, 0) := rfl
theorem f216_121 : fetch 216 121 = some (.ireturn, 0, 0, 1) := rfl
set_option maxRecDepth 100000 in
set_option maxHeartbeats 4000000 in
theorem p216_j100_ok (d : Nat) (F : Nat) (a0 : Int32) (a1 : Int32) (a2 : Int32) (a3 : Int32) (K9 : Int32 → Int32 → Int32 → Option (Int32)) (h : HS) (w : WF h) (hK9 : ∀ (u5 : Int32) (u6 : Int32) (u7 : Int32) (r : Int32), K9 u5 u6 u7 = some r → ex (d + 1) 216 (9, [some (.ref (86)), some (.int (a0)), some (.int (a1)), some (.int (a2)), some (.int (a3)), some (.int (u5)), some (.int (u6)), some (.int (u7))], [], h) = some (some (.int (r)), h)) (v5 : Int32) (v6 : Int32) (v7 : Int32) (r : Int32) (hp : p216_j100 F a0 a1 a2 a3 K9 h v5 v6 v7 = some r) : ex (d + 1) 216 (100, [some (.ref (86)), some (.int (a0)), some (.int (a1)), some (.int (a2)), some (.int (a3)), some (.int (v5)), some (.int (v6)), some (.int (v7))], [], h) = some (some (.int (r)), h) := by
  unfold p216_j100 at hp
  refine e_iinc (ls2 := [some (.ref (86)), some (.int (a0)), some (.int (a1)), some (.int (a2)), some (.int (a3)), some (.int (v5)), some (.int (v6)), some (.int ((v7) + 1))]) f216_100 (by decide) rfl rfl ?_
  refine e_goto f216_103 ?_
  refine ex_weak (ls := [some (.ref (86)), some (.int (a0)), some (.int (a1)), some (.int (a2)), some (.int (a3)), some (.int (v5)), some (.int (v6)), some (.int ((v7) + 1))]) (le2_ok ⟨Or.inr rfl, Or.inr rfl, Or.inr rfl, Or.inr rfl, Or.inr rfl, Or.inr rfl, Or.inr rfl, Or.inr rfl, trivial⟩) ?_
  exact hK9 (v5) (v6) ((v7) + 1) _ hp
set_option maxRecDepth 100000 in
set_option maxHeartbeats 4000000 in
theorem p216_j98_ok (d : Nat) (F : Nat) (a0 : Int32) (a1 : Int32) (a2 : Int32) (a3 : Int32) (K9 : Int32 → Int32 → Int32 → Option (Int32)) (h : HS) (w : WF h) (hK9 : ∀ (u5 : Int32) (u6 : Int32) (u7 : Int32) (r : Int32), K9 u5 u6 u7 = some r → ex (d + 1) 216 (9, [some (.ref (86)), some (.int (a0)), some (.int (a1)), some (.int (a2)), some (.int (a3)), some (.int (u5)), some (.int (u6)), some (.int (u7))], [], h) = some (some (.int (r)), h)) (v5 : Int32) (v7 : Int32) (s0 : Int32) (r : Int32) (hp : p216_j98 F a0 a1 a2 a3 K9 h v5 v7 s0 = some r) : ex (d + 1) 216 (98, [some (.ref (86)), some (.int (a0)), some (.int (a1)), some (.int (a2)), some (.int (a3)), some (.int (v5)), none, some (.int (v7))], [.int (s0)], h) = some (some (.int (r)), h) := by
  unfold p216_j98 at hp
  refine e_istore (ls2 := [some (.ref (86)), some (.int (a0)), some (.int (a1)), some (.int (a2)), some (.int (a3)), some (.int (v5)), some (.int (s0)), some (.int (v7))]) f216_98 (Nat.le_of_ble_eq_true rfl) rfl ?_
  refine ex_weak (ls := [some (.ref (86)), some (.int (a0)), some (.int (a1)), some (.int (a2)), some (.int (a3)), some (.int (v5)), some (.int (s0)), some (.int (v7))]) (le2_ok ⟨Or.inr rfl, Or.inr rfl, Or.inr rfl, Or.inr rfl, Or.inr rfl, Or.inr rfl, Or.inr rfl, Or.inr rfl, trivial⟩) ?_
  exact p216_j100_ok d F a0 a1 a2 a3 (K9) (h) (w) (hK9) (v5) (s0) (v7) _ hp
set_option maxRecDepth 100000 in
set_option maxHeartbeats 4000000 in
theorem p216_j93_ok (d : Nat) (F : Nat) (a0 : Int32) (a1 : Int32) (a2 : Int32) (a3 : Int32) (K9 : Int32 → Int32 → Int32 → Option (Int32)) (h : HS) (w : WF h) (hK9 : ∀ (u5 : Int32) (u6 : Int32) (u7 : Int32) (r : Int32), K9 u5 u6 u7 = some r → ex (d + 1) 216 (9, [some (.ref (86)), some (.int (a0)), some (.int (a1)), some (.int (a2)), some (.int (a3)), some (.int (u5)), some (.int (u6)), some (.int (u7))], [], h) = some (some (.int (r)), h)) (v5 : Int32) (v7 : Int32) (r : Int32) (hp : p216_j93 F a0 a1 a2 a3 K9 h v5 v7 = some r) : ex (d + 1) 216 (93, [some (.ref (86)), some (.int (a0)), some (.int (a1)), some (.int (a2)), some (.int (a3)), some (.int (v5)), none, some (.int (v7))], [], h) = some (some (.int (r)), h) := by
  unfold p216_j93 at hp
  refine e_iconst (v := 1) f216_93 (by decide) ?_
  refine e_goto f216_94 ?_
  refine ex_weak (ls := [some (.ref (86)), some (.int (a0)), some (.int (a1)), some (.int (a2)), some (.int (a3)), some (.int (v5)), none, some (.int (v7))]) (le2_ok ⟨Or.inr rfl, Or.inr rfl, Or.inr rfl, Or.inr rfl, Or.inr rfl, Or.inr rfl, Or.inl rfl, Or.inr rfl, trivial⟩) ?_
  exact p216_j98_ok d F a0 a1 a2 a3 (K9) (h) (w) (hK9) (v5) (v7) (1) _ hp
set_option maxRecDepth 100000 in
set_option maxHeartbeats 4000000 in
theorem p216_L9_ok (d : Nat) (F : Nat) (a0 : Int32) (a1 : Int32) (a2 : Int32) (a3 : Int32) (h : HS) (w : WF h)  : ∀ (n : Nat) (v5 : Int32) (v6 : Int32) (v7 : Int32) (r : Int32), p216_L9 F a0 a1 a2 a3 n h v5 v6 v7 = some r → ex (d + 1) 216 (9, [some (.ref (86)), some (.int (a0)), some (.int (a1)), some (.int (a2)), some (.int (a3)), some (.int (v5)), some (.int (v6)), some (.int (v7))], [], h) = some (some (.int (r)), h) := by
  intro n
  induction n with
  | zero => intro v5 v6 v7 r hp; cases hp
  | succ n ih =>
    intro v5 v6 v7 r hp
    unfold p216_L9 at hp
    refine e_iload f216_9 rfl ?_
    refine e_aload_n f216_11 rfl ?_
    refine e_getI f216_12 (WF.t w 86 (by decide)) (by decide) ?_
    by_cases hc1 : (v7) < ((hI (h) (86) 21) : Int32)
    · rw [if_pos hc1] at hp
      refine e_icmp_ge_f f216_15 hc1 ?_
      refine e_aload_n f216_18 rfl ?_
      refine e_getR f216_19 (WF.t w 86 (by decide)) rfl (WF.r (q := 103) w 86 25 (by decide)) ?_
      refine e_iload f216_22 rfl ?_
      by_cases hg2 : (v7) < (0 : Int32) ∨ 400 ≤ (v7).toNatClampNeg
      · rw [if_pos hg2] at hp; cases hp
      rw [if_neg hg2] at hp
      refine e_iaload f216_24 (Or.inl (WF.t w 103 (by decide))) (WF.n w 103 (by decide)) hg2 ?_
      refine e_iload_n f216_25 rfl ?_
      by_cases hc3 : (hI (h) (103) (v7).toNatClampNeg) = ((a0) : Int32)
      · rw [if_pos hc3] at hp
        refine e_icmp_ne_f f216_26 hc3 ?_
        refine e_aload_n f216_29 rfl ?_
        refine e_getR f216_30 (WF.t w 86 (by decide)) rfl (WF.r (q := 107) w 86 29 (by decide)) ?_
        refine e_iload f216_33 rfl ?_
        by_cases hg4 : (v7) < (0 : Int32) ∨ 400 ≤ (v7).toNatClampNeg
        · rw [if_pos hg4] at hp; cases hp
        rw [if_neg hg4] at hp
        refine e_iaload f216_35 (Or.inl (WF.t w 107 (by decide))) (WF.n w 107 (by decide)) hg4 ?_
        refine e_iload f216_36 rfl ?_
        by_cases hc5 : (a3) < ((hI (h) (107) (v7).toNatClampNeg) : Int32)
        · rw [if_pos hc5] at hp
          refine e_icmp_gt_t f216_38 hc5 ?_
          refine ex_weak (ls := [some (.ref (86)), some (.int (a0)), some (.int (a1)), some (.int (a2)), some (.int (a3)), some (.int (v5)), some (.int (v6)), some (.int (v7))]) (le2_ok ⟨Or.inr rfl, Or.inr rfl, Or.inr rfl, Or.inr rfl, Or.inr rfl, Or.inr rfl, Or.inr rfl, Or.inr rfl, trivial⟩) ?_
          exact p216_j100_ok d F a0 a1 a2 a3 ((p216_L9 F a0 a1 a2 a3 n h)) (h) (w) (ih) (v5) (v6) (v7) _ hp
        · rw [if_neg hc5] at hp
          refine e_icmp_gt_f f216_38 hc5 ?_
          refine e_aload_n f216_41 rfl ?_
          refine e_getR f216_42 (WF.t w 86 (by decide)) rfl (WF.r (q := 108) w 86 30 (by decide)) ?_
          refine e_iload f216_45 rfl ?_
          by_cases hg6 : (v7) < (0 : Int32) ∨ 400 ≤ (v7).toNatClampNeg
          · rw [if_pos hg6] at hp; cases hp
          rw [if_neg hg6] at hp
          refine e_iaload f216_47 (Or.inl (WF.t w 108 (by decide))) (WF.n w 108 (by decide)) hg6 ?_
          refine e_iload f216_48 rfl ?_
          by_cases hc7 : (a3) < ((hI (h) (108) (v7).toNatClampNeg) : Int32)
          · rw [if_pos hc7] at hp
            refine e_icmp_le_f f216_50 hc7 ?_
            refine e_iload_n f216_53 rfl ?_
            refine e_aload_n f216_54 rfl ?_
            refine e_getR f216_55 (WF.t w 86 (by decide)) rfl (WF.r (q := 105) w 86 27 (by decide)) ?_
            refine e_iload f216_58 rfl ?_
            by_cases hg8 : (v7) < (0 : Int32) ∨ 400 ≤ (v7).toNatClampNeg
            · rw [if_pos hg8] at hp; cases hp
            rw [if_neg hg8] at hp
            refine e_iaload f216_60 (Or.inl (WF.t w 105 (by decide))) (WF.n w 105 (by decide)) hg8 ?_
            refine e_aload_n f216_61 rfl ?_
            refine e_getR f216_62 (WF.t w 86 (by decide)) rfl (WF.r (q := 106) w 86 28 (by decide)) ?_
            refine e_iload f216_65 rfl ?_
            by_cases hg9 : (v7) < (0 : Int32) ∨ 400 ≤ (v7).toNatClampNeg
            · rw [if_pos hg9] at hp; cases hp
            rw [if_neg hg9] at hp
            refine e_iaload f216_67 (Or.inl (WF.t w 106 (by decide))) (WF.n w 106 (by decide)) hg9 ?_
            obtain ⟨r10, hr11, hp⟩ := bind_some hp
            try dsimp only at hp
            refine e_callS (st := []) (as := [.int (a2), .int (hI (h) (105) (v7).toNatClampNeg), .int (hI (h) (106) (v7).toNatClampNeg)]) f216_68 (by decide) rfl rfl (Nat.le_of_ble_eq_true rfl) (Nat.le_of_ble_eq_true rfl) (p187_ok d (h) w (a2) (hI (h) (105) (v7).toNatClampNeg) (hI (h) (106) (v7).toNatClampNeg) r10 hr11) ?_
            show ex _ 216 (71, [some (.ref (86)), some (.int (a0)), some (.int (a1)), some (.int (a2)), some (.int (a3)), some (.int (v5)), some (.int (v6)), some (.int (v7))], [.int (r10)], h) = _
            by_cases hc12 : (r10) = (0 : Int32)
            · rw [if_pos hc12] at hp
              refine e_if_eq_t f216_71 hc12 ?_
              refine ex_weak (ls := [some (.ref (86)), some (.int (a0)), some (.int (a1)), some (.int (a2)), some (.int (a3)), some (.int (v5)), some (.int (v6)), some (.int (v7))]) (le2_ok ⟨Or.inr rfl, Or.inr rfl, Or.inr rfl, Or.inr rfl, Or.inr rfl, Or.inr rfl, Or.inr rfl, Or.inr rfl, trivial⟩) ?_
              exact p216_j100_ok d F a0 a1 a2 a3 ((p216_L9 F a0 a1 a2 a3 n h)) (h) (w) (ih) (v5) (v6) (v7) _ hp
            · rw [if_neg hc12] at hp
              refine e_if_eq_f f216_71 hc12 ?_
              refine e_iconst (v := 1) f216_74 (by decide) ?_
              refine e_istore (ls2 := [some (.ref (86)), some (.int (a0)), some (.int (a1)), some (.int (a2)), some (.int (a3)), some (.int (1)), some (.int (v6)), some (.int (v7))]) f216_75 (Nat.le_of_ble_eq_true rfl) rfl ?_
              refine e_iload f216_77 rfl ?_
              by_cases hc13 : (v6) = (0 : Int32)
              · rw [if_pos hc13] at hp
                refine e_if_ne_f f216_79 hc13 ?_
                refine e_aload_n f216_82 rfl ?_
                refine e_getR f216_83 (WF.t w 86 (by decide)) rfl (WF.r (q := 104) w 86 26 (by decide)) ?_
                refine e_iload f216_86 rfl ?_
                by_cases hg14 : (v7) < (0 : Int32) ∨ 400 ≤ (v7).toNatClampNeg
                · rw [if_pos hg14] at hp; cases hp
                rw [if_neg hg14] at hp
                refine e_iaload f216_88 (Or.inl (WF.t w 104 (by decide))) (WF.n w 104 (by decide)) hg14 ?_
                refine e_iload_n f216_89 rfl ?_
                by_cases hc15 : (hI (h) (104) (v7).toNatClampNeg) = ((a1) : Int32)
                · rw [if_pos hc15] at hp
                  refine e_icmp_ne_f f216_90 hc15 ?_
                  refine ex_weak (ls := [some (.ref (86)), some (.int (a0)), some (.int (a1)), some (.int (a2)), some (.int (a3)), some (.int (1)), none, some (.int (v7))]) (le2_ok ⟨Or.inr rfl, Or.inr rfl, Or.inr rfl, Or.inr rfl, Or.inr rfl, Or.inr rfl, Or.inl rfl, Or.inr rfl, trivial⟩) ?_
                  exact p216_j93_ok d F a0 a1 a2 a3 ((p216_L9 F a0 a1 a2 a3 n h)) (h) (w) (ih) (1) (v7) _ hp
                · rw [if_neg hc15] at hp
                  refine e_icmp_ne_t f216_90 hc15 ?_
                  refine e_iconst (v := 0) f216_97 (by decide) ?_
                  refine ex_weak (ls := [some (.ref (86)), some (.int (a0)), some (.int (a1)), some (.int (a2)), some (.int (a3)), some (.int (1)), none, some (.int (v7))]) (le2_ok ⟨Or.inr rfl, Or.inr rfl, Or.inr rfl, Or.inr rfl, Or.inr rfl, Or.inr rfl, Or.inl rfl, Or.inr rfl, trivial⟩) ?_
                  exact p216_j98_ok d F a0 a1 a2 a3 ((p216_L9 F a0 a1 a2 a3 n h)) (h) (w) (ih) (1) (v7) (0) _ hp
              · rw [if_neg hc13] at hp
                refine e_if_ne_t f216_79 hc13 ?_
                refine ex_weak (ls := [some (.ref (86)), some (.int (a0)), some (.int (a1)), some (.int (a2)), some (.int (a3)), some (.int (1)), none, some (.int (v7))]) (le2_ok ⟨Or.inr rfl, Or.inr rfl, Or.inr rfl, Or.inr rfl, Or.inr rfl, Or.inr rfl, Or.inl rfl, Or.inr rfl, trivial⟩) ?_
                exact p216_j93_ok d F a0 a1 a2 a3 ((p216_L9 F a0 a1 a2 a3 n h)) (h) (w) (ih) (1) (v7) _ hp
          · rw [if_neg hc7] at hp
            refine e_icmp_le_t f216_50 hc7 ?_
            refine ex_weak (ls := [some (.ref (86)), some (.int (a0)), some (.int (a1)), some (.int (a2)), some (.int (a3)), some (.int (v5)), some (.int (v6)), some (.int (v7))]) (le2_ok ⟨Or.inr rfl, Or.inr rfl, Or.inr rfl, Or.inr rfl, Or.inr rfl, Or.inr rfl, Or.inr rfl, Or.inr rfl, trivial⟩) ?_
            exact p216_j100_ok d F a0 a1 a2 a3 ((p216_L9 F a0 a1 a2 a3 n h)) (h) (w) (ih) (v5) (v6) (v7) _ hp
      · rw [if_neg hc3] at hp
        refine e_icmp_ne_t f216_26 hc3 ?_
        refine ex_weak (ls := [some (.ref (86)), some (.int (a0)), some (.int (a1)), some (.int (a2)), some (.int (a3)), some (.int (v5)), some (.int (v6)), some (.int (v7))]) (le2_ok ⟨Or.inr rfl, Or.inr rfl, Or.inr rfl, Or.inr rfl, Or.inr rfl, Or.inr rfl, Or.inr rfl, Or.inr rfl, trivial⟩) ?_
        exact p216_j100_ok d F a0 a1 a2 a3 ((p216_L9 F a0 a1 a2 a3 n h)) (h) (w) (ih) (v5) (v6) (v7) _ hp
    · rw [if_neg hc1] at hp
      refine e_icmp_ge_t f216_15 hc1 ?_
      refine e_iload f216_106 rfl ?_
      by_cases hc16 : (v5) = (0 : Int32)
      · rw [if_pos hc16] at hp
        refine e_if_eq_t f216_108 hc16 ?_
        refine e_iconst (v := 0) f216_120 (by decide) ?_
        have hp := Option.some.inj hp
        subst hp
        exact e_ireturn f216_121 (by decide)
      · rw [if_neg hc16] at hp
        refine e_if_eq_f f216_108 hc16 ?_
        refine e_iload f216_111 rfl ?_
        by_cases hc17 : (v6) = (0 : Int32)
        · rw [if_pos hc17] at hp
          refine e_if_ne_f f216_113 hc17 ?_
          refine e_iconst (v := 1) f216_116 (by decide) ?_
          refine e_goto f216_117 ?_
          have hp := Option.some.inj hp
          subst hp
          exact e_ireturn f216_121 (by decide)
        · rw [if_neg hc17] at hp
          refine e_if_ne_t f216_113 hc17 ?_
          refine e_iconst (v := 0) f216_120 (by decide) ?_
          have hp := Option.some.inj hp
          subst hp
          exact e_ireturn f216_121 (by decide)
set_option maxRecDepth 100000 in
set_option maxHeartbeats 4000000 in
theorem p216_ok (d : Nat) (F : Nat) (h : HS) (w : WF h) (a0 : Int32) (a1 : Int32) (a2 : Int32) (a3 : Int32) (r : Int32) (hp : p216 F h a0 a1 a2 a3 = some r) : ex (d + 1) 216 (ent 216 [.ref (86), .int (a0), .int (a1), .int (a2), .int (a3)] h) = some (some (.int (r)), h) := by
  rw [show ent 216 [.ref (86), .int (a0), .int (a1), .int (a2), .int (a3)] h = (0, [some (.ref (86)), some (.int (a0)), some (.int (a1)), some (.int (a2)), some (.int (a3)), none, none, none], [], h) from by  rfl]
  refine ex_weak (ls := [some (.ref (86)), some (.int (a0)), some (.int (a1)), some (.int (a2)), some (.int (a3)), none, none, none]) (le2_ok ⟨Or.inr rfl, Or.inr rfl, Or.inr rfl, Or.inr rfl, Or.inr rfl, Or.inr rfl, Or.inr rfl, Or.inr rfl, trivial⟩) ?_
  unfold p216 at hp
  refine e_iconst (v := 0) f216_0 (by decide) ?_
  refine e_istore (ls2 := [some (.ref (86)), some (.int (a0)), some (.int (a1)), some (.int (a2)), some (.int (a3)), some (.int (0)), none, none]) f216_1 (Nat.le_of_ble_eq_true rfl) rfl ?_
  refine e_iconst (v := 0) f216_3 (by decide) ?_
  refine e_istore (ls2 := [some (.ref (86)), some (.int (a0)), some (.int (a1)), some (.int (a2)), some (.int (a3)), some (.int (0)), some (.int (0)), none]) f216_4 (Nat.le_of_ble_eq_true rfl) rfl ?_
  refine e_iconst (v := 0) f216_6 (by decide) ?_
  refine e_istore (ls2 := [some (.ref (86)), some (.int (a0)), some (.int (a1)), some (.int (a2)), some (.int (a3)), some (.int (0)), some (.int (0)), some (.int (0))]) f216_7 (Nat.le_of_ble_eq_true rfl) rfl ?_
  refine ex_weak (ls := [some (.ref (86)), some (.int (a0)), some (.int (a1)), some (.int (a2)), some (.int (a3)), some (.int (0)), some (.int (0)), some (.int (0))]) (le2_ok ⟨Or.inr rfl, Or.inr rfl, Or.inr rfl, Or.inr rfl, Or.inr rfl, Or.inr rfl, Or.inr rfl, Or.inr rfl, trivial⟩) ?_
  exact p216_L9_ok d F a0 a1 a2 a3 (h) (w) F (0) (0) (0) _ hp
theorem f217_0 : fetch 217 0 = some (.aload_n 0, 0, 0, 0) := rfl
theorem f217_1 : fetch 217 1 = some (.getfield 326, 12, 31, 0) := rfl
theorem f217_4 : fetch 217 4 = some (.bipush 40, 0, 0, 0) := rfl
theorem f217_6 : fetch 217 6 = some (.if_icmp .eq 13, 19, 0, 0) := rfl
theorem f217_9 : fetch 217 9 = some (.iload_n 1, 0, 0, 0) := rfl
theorem f217_10 : fetch 217 10 = some (.iconst 0, 0, 0, 0) := rfl
theorem f217_11 : fetch 217 11 = some (.bipush 9, 0, 0, 0) := rfl
theorem f217_13 : fetch 217 13 = some (.invokestatic 240, 187, 3, 1) := rfl
theorem f217_16 : fetch 217 16 = some (.ifCond .ne 5, 21, 0, 0) := rfl
theorem f217_19 : fetch 217 19 = some (.iconst (-1), 0, 0, 0) := rfl
theorem f217_20 : fetch 217 20 = some (.ireturn, 0, 0, 0) := rfl
theorem f217_21 : fetch 217 21 = some (.aload_n 0, 0, 0, 0) := rfl
theorem f217_22 : fetch 217 22 = some (.getfield 76, 12, 34, 2) := rfl
theorem f217_25 : fetch 217 25 = some (.aload_n 0, 0, 0, 0) := rfl
theorem f217_26 : fetch 217 26 = some (.getfield 326, 12, 31, 0) := rfl
theorem f217_29 : fetch 217 29 = some (.iload_n 1, 0, 0, 0) := rfl
theorem f217_30 : fetch 217 30 = some (.iastore, 0, 0, 0) := rfl
theorem f217_31 : fetch 217 31 = some (.aload_n 0, 0, 0, 0) := rfl
theorem f217_32 : fetch 217 32 = some (.dup, 0, 0, 0) := rfl
theorem f217_33 : fetch 217 33 = some (.getfield 326, 12, 31, 0) := rfl
theorem f217_36 : fetch 217 36 = some (.iconst 1, 0, 0, 0) := rfl
theorem f217_37 : fetch 217 37 = some (.iadd, 0, 0, 0) := rfl
theorem f217_38 : fetch 217 38 = some (.putfield 326, 12, 31, 0) := rfl
theorem f217_41 : fetch 217 41 = some (.aload_n 0, 0, 0, 0) := rfl
theorem f217_42 : fetch 217 42 = some (.getfield 326, 12, 31, 0) := rfl
theorem f217_45 : fetch 217 45 = some (.iconst 1, 0, 0, 0) := rfl
theorem f217_46 : fetch 217 46 = some (.isub, 0, 0, 0) := rfl
theorem f217_47 : fetch 217 47 = some (.ireturn, 0, 0, 0) := rfl
set_option maxRecDepth 100000 in
set_option maxHeartbeats 4000000 in
theorem p217_ok (d : Nat) (h : HS) (w : WF h) (a0 : Int32) (r : Int32 × HS) (hp : p217 h a0 = some r) : ex (d + 1) 217 (ent 217 [.ref (86), .int (a0)] h) = some (some (.int (r.1)), r.2) := by
  rw [show ent 217 [.ref (86), .int (a0)] h = (0, [some (.ref (86)), some (.int (a0))], [], h) from by  rfl]
  refine ex_weak (ls := [some (.ref (86)), some (.int (a0))]) (le2_ok ⟨Or.inr rfl, Or.inr rfl, trivial⟩) ?_
  unfold p217 at hp
  refine e_aload_n f217_0 rfl ?_
  refine e_getI f217_1 (WF.t w 86 (by decide)) (by decide) ?_
  refine e_bipush (v := 40) f217_4 (by decide) ?_
  by_cases hc1 : (hI (h) (86) 31) = ((40) : Int32)
  · rw [if_pos hc1] at hp
    refine e_icmp_eq_t f217_6 hc1 ?_
    refine e_iconst (v := -1) f217_19 (by decide) ?_
    have hp := Option.some.inj hp
    subst hp
    exact e_ireturn f217_20 (Or.inl rfl)
  · rw [if_neg hc1] at hp
    refine e_icmp_eq_f f217_6 hc1 ?_
    refine e_iload_n f217_9 rfl ?_
    refine e_iconst (v := 0) f217_10 (by decide) ?_
    refine e_bipush (v := 9) f217_11 (by decide) ?_
    obtain ⟨r2, hr3, hp⟩ := bind_some hp
    try dsimp only at hp
    refine e_callS (st := []) (as := [.int (a0), .int (0), .int (9)]) f217_13 (by decide) rfl rfl (Nat.le_of_ble_eq_true rfl) (Nat.le_of_ble_eq_true rfl) (p187_ok d (h) w (a0) (0) (9) r2 hr3) ?_
    show ex _ 217 (16, [some (.ref (86)), some (.int (a0))], [.int (r2)], h) = _
    by_cases hc4 : (r2) = (0 : Int32)
    · rw [if_pos hc4] at hp
      refine e_if_ne_f f217_16 hc4 ?_
      refine e_iconst (v := -1) f217_19 (by decide) ?_
      have hp := Option.some.inj hp
      subst hp
      exact e_ireturn f217_20 (Or.inl rfl)
    · rw [if_neg hc4] at hp
      refine e_if_ne_t f217_16 hc4 ?_
      refine e_aload_n f217_21 rfl ?_
      refine e_getR f217_22 (WF.t w 86 (by decide)) rfl (WF.r (q := 109) w 86 34 (by decide)) ?_
      refine e_aload_n f217_25 rfl ?_
      refine e_getI f217_26 (WF.t w 86 (by decide)) (by decide) ?_
      refine e_iload_n f217_29 rfl ?_
      by_cases hg5 : (hI (h) (86) 31) < (0 : Int32) ∨ 40 ≤ (hI (h) (86) 31).toNatClampNeg
      · rw [if_pos hg5] at hp; cases hp
      rw [if_neg hg5] at hp
      refine e_iastore f217_30 (WF.t w 109 (by decide)) (WF.n w 109 (by decide)) hg5 ?_
      refine e_aload_n f217_31 rfl ?_
      refine e_dup f217_32 rfl ?_
      refine e_getI f217_33 (WF.t w 86 (by decide)) (by decide) ?_
      refine e_iconst (v := 1) f217_36 (by decide) ?_
      refine e_iadd f217_37 ?_
      refine e_putI f217_38 (WF.t w 86 (by decide)) rfl ?_
      obtain ⟨h6, e7, hp⟩ := bind_some hp
      try dsimp only at hp
      have e7 := Option.some.inj e7
      have w8 : WF h6 := e7 ▸ w
      rw [e7]
      refine e_aload_n f217_41 rfl ?_
      refine e_getI f217_42 (WF.t w8 86 (by decide)) (by decide) ?_
      refine e_iconst (v := 1) f217_45 (by decide) ?_
      refine e_isub f217_46 ?_
      have hp := Option.some.inj hp
      subst hp
      exact e_ireturn f217_47 (Or.inl rfl)
set_option maxRecDepth 100000 in
set_option maxHeartbeats 4000000 in
theorem p217_w (h : HS) (w : WF h) (a0 : Int32) (r : Int32 × HS) (hp : p217 h a0 = some r) : WF r.2 := by
  unfold p217 at hp
  by_cases hc1 : (hI (h) (86) 31) = ((40) : Int32)
  · rw [if_pos hc1] at hp
    have hp := Option.some.inj hp
    subst hp
    exact (w)
  · rw [if_neg hc1] at hp
    obtain ⟨r2, hr3, hp⟩ := bind_some hp
    try dsimp only at hp
    by_cases hc4 : (r2) = (0 : Int32)
    · rw [if_pos hc4] at hp
      have hp := Option.some.inj hp
      subst hp
      exact (w)
    · rw [if_neg hc4] at hp
      by_cases hg5 : (hI (h) (86) 31) < (0 : Int32) ∨ 40 ≤ (hI (h) (86) 31).toNatClampNeg
      · rw [if_pos hg5] at hp; cases hp
      rw [if_neg hg5] at hp
      obtain ⟨h6, e7, hp⟩ := bind_some hp
      try dsimp only at hp
      have e7 := Option.some.inj e7
      have w8 : WF h6 := e7 ▸ w
      have hp := Option.some.inj hp
      subst hp
      exact (w8)
theorem f218_0 : fetch 218 0 = some (.iload_n 1, 0, 0, 0) := rfl
theorem f218_1 : fetch 218 1 = some (.iconst 0, 0, 0, 0) := rfl
theorem f218_2 : fetch 218 2 = some (.aload_n 0, 0, 0, 0) := rfl
theorem f218_3 : fetch 218 3 = some (.getfield 326, 12, 31, 0) := rfl
theorem f218_6 : fetch 218 6 = some (.iconst 1, 0, 0, 0) := rfl
theorem f218_7 : fetch 218 7 = some (.isub, 0, 0, 0) := rfl
theorem f218_8 : fetch 218 8 = some (.invokestatic 240, 187, 3, 1) := rfl
theorem f218_11 : fetch 218 11 = some (.ireturn, 0, 0, 1) := rfl
set_option maxRecDepth 100000 in
set_option maxHeartbeats 4000000 in
theorem p218_ok (d : Nat) (h : HS) (w : WF h) (a0 : Int32) (r : Int32) (hp : p218 h a0 = some r) : ex (d + 1) 218 (ent 218 [.ref (86), .int (a0)] h) = some (some (.int (r)), h) := by
  rw [show ent 218 [.ref (86), .int (a0)] h = (0, [some (.ref (86)), some (.int (a0))], [], h) from by  rfl]
  refine ex_weak (ls := [some (.ref (86)), some (.int (a0))]) (le2_ok ⟨Or.inr rfl, Or.inr rfl, trivial⟩) ?_
  unfold p218 at hp
  refine e_iload_n f218_0 rfl ?_
  refine e_iconst (v := 0) f218_1 (by decide) ?_
  refine e_aload_n f218_2 rfl ?_
  refine e_getI f218_3 (WF.t w 86 (by decide)) (by decide) ?_
  refine e_iconst (v := 1) f218_6 (by decide) ?_
  refine e_isub f218_7 ?_
  obtain ⟨r1, hr2, hp⟩ := bind_some hp
  try dsimp only at hp
  refine e_callS (st := []) (as := [.int (a0), .int (0), .int ((hI (h) (86) 31) - (1))]) f218_8 (by decide) rfl rfl (Nat.le_of_ble_eq_true rfl) (Nat.le_of_ble_eq_true rfl) (p187_ok d (h) w (a0) (0) ((hI (h) (86) 31) - (1)) r1 hr2) ?_
  show ex _ 218 (11, [some (.ref (86)), some (.int (a0))], [.int (r1)], h) = _
  by_cases hg3 : (r1) = (0 : Int32) ∨ (r1) = (1 : Int32)
  rotate_left
  · rw [if_neg hg3] at hp; cases hp
  rw [if_pos hg3] at hp
  have hp := Option.some.inj hp
  subst hp
  exact e_ireturn f218_11 (Or.inr hg3)
theorem f219_0 : fetch 219 0 = some (.aload_n 0, 0, 0, 0) := rfl
theorem f219_1 : fetch 219 1 = some (.getfield 304, 12, 32, 0) := rfl
theorem f219_4 : fetch 219 4 = some (.sipush 200, 0, 0, 0) := rfl
theorem f219_7 : fetch 219 7 = some (.if_icmp .eq 72, 79, 0, 0) := rfl
theorem f219_10 : fetch 219 10 = some (.aload_n 0, 0, 0, 0) := rfl
theorem f219_11 : fetch 219 11 = some (.iload_n 1, 0, 0, 0) := rfl
theorem f219_12 : fetch 219 12 = some (.invokevirtual 301, 206, 1, 0) := rfl
theorem f219_15 : fetch 219 15 = some (.ifCond .eq 64, 79, 0, 0) := rfl
theorem f219_18 : fetch 219 18 = some (.aload_n 0, 0, 0, 0) := rfl
theorem f219_19 : fetch 219 19 = some (.iload_n 2, 0, 0, 0) := rfl
theorem f219_20 : fetch 219 20 = some (.invokevirtual 329, 218, 1, 0) := rfl
theorem f219_23 : fetch 219 23 = some (.ifCond .eq 56, 79, 0, 0) := rfl
theorem f219_26 : fetch 219 26 = some (.aload_n 0, 0, 0, 0) := rfl
theorem f219_27 : fetch 219 27 = some (.iload_n 3, 0, 0, 0) := rfl
theorem f219_28 : fetch 219 28 = some (.invokevirtual 320, 213, 1, 0) := rfl
theorem f219_31 : fetch 219 31 = some (.ifCond .eq 48, 79, 0, 0) := rfl
theorem f219_34 : fetch 219 34 = some (.iload 4, 0, 0, 0) := rfl
theorem f219_36 : fetch 219 36 = some (.iconst 0, 0, 0, 0) := rfl
theorem f219_37 : fetch 219 37 = some (.bipush 31, 0, 0, 0) := rfl
theorem f219_39 : fetch 219 39 = some (.invokestatic 240, 187, 3, 1) := rfl
theorem f219_42 : fetch 219 42 = some (.ifCond .eq 37, 79, 0, 0) := rfl
theorem f219_45 : fetch 219 45 = some (.iload 5, 0, 0, 0) := rfl
theorem f219_47 : fetch 219 47 = some (.iconst 0, 0, 0, 0) := rfl
theorem f219_48 : fetch 219 48 = some (.bipush 99, 0, 0, 0) := rfl
theorem f219_50 : fetch 219 50 = some (.invokestatic 240, 187, 3, 1) := rfl
theorem f219_53 : fetch 219 53 = some (.ifCond .eq 26, 79, 0, 0) := rfl
theorem f219_56 : fetch 219 56 = some (.iload 6, 0, 0, 0) := rfl
theorem f219_58 : fetch 219 58 = some (.invokestatic 323, 189, 1, 1) := rfl
theorem f219_61 : fetch 219 61 = some (.ifCond .eq 18, 79, 0, 0) := rfl
theorem f219_64 : fetch 219 64 = some (.iload 7, 0, 0, 0) := rfl
theorem f219_66 : fetch 219 66 = some (.invokestatic 323, 189, 1, 1) := rfl
theorem f219_69 : fetch 219 69 = some (.ifCond .eq 10, 79, 0, 0) := rfl
theorem f219_72 : fetch 219 72 = some (.iload 7, 0, 0, 0) := rfl
theorem f219_74 : fetch 219 74 = some (.iload 6, 0, 0, 0) := rfl
theorem f219_76 : fetch 219 76 = some (.if_icmp .ge 5, 81, 0, 0) := rfl
theorem f219_79 : fetch 219 79 = some (.iconst (-1), 0, 0, 0) := rfl
theorem f219_80 : fetch 219 80 = some (.ireturn, 0, 0, 0) := rfl
theorem f219_81 : fetch 219 81 = some (.aload_n 0, 0, 0, 0) := rfl
theorem f219_82 : fetch 219 82 = some (.getfield 82, 12, 36, 2) := rfl
theorem f219_85 : fetch 219 85 = some (.aload_n 0, 0, 0, 0) := rfl
theorem f219_86 : fetch 219 86 = some (.getfield 304, 12, 32, 0) := rfl
theorem f219_89 : fetch 219 89 = some (.iload_n 1, 0, 0, 0) := rfl
theorem f219_90 : fetch 219 90 = some (.iastore, 0, 0, 0) := rfl
theorem f219_91 : fetch 219 91 = some (.aload_n 0, 0, 0, 0) := rfl
theorem f219_92 : fetch 219 92 = some (.getfield 85, 12, 37, 2) := rfl
theorem f219_95 : fetch 219 95 = some (.aload_n 0, 0, 0, 0) := rfl
theorem f219_96 : fetch 219 96 = some (.getfield 304, 12, 32, 0) := rfl
theorem f219_99 : fetch 219 99 = some (.iload_n 2, 0, 0, 0) := rfl
theorem f219_100 : fetch 219 100 = some (.iastore, 0, 0, 0) := rfl
theorem f219_101 : fetch 219 101 = some (.aload_n 0, 0, 0, 0) := rfl
theorem f219_102 : fetch 219 102 = some (.getfield 88, 12, 38, 2) := rfl
theorem f219_105 : fetch 219 105 = some (.aload_n 0, 0, 0, 0) := rfl
theorem f219_106 : fetch 219 106 = some (.getfield 304, 12, 32, 0) := rfl
theorem f219_109 : fetch 219 109 = some (.iload_n 3, 0, 0, 0) := rfl
theorem f219_110 : fetch 219 110 = some (.iastore, 0, 0, 0) := rfl
theorem f219_111 : fetch 219 111 = some (.aload_n 0, 0, 0, 0) := rfl
theorem f219_112 : fetch 219 112 = some (.getfield 91, 12, 39, 2) := rfl
theorem f219_115 : fetch 219 115 = some (.aload_n 0, 0, 0, 0) := rfl
theorem f219_116 : fetch 219 116 = some (.getfield 304, 12, 32, 0) := rfl
theorem f219_119 : fetch 219 119 = some (.iload 4, 0, 0, 0) := rfl
theorem f219_121 : fetch 219 121 = some (.iastore, 0, 0, 0) := rfl
theorem f219_122 : fetch 219 122 = some (.aload_n 0, 0, 0, 0) := rfl
theorem f219_123 : fetch 219 123 = some (.getfield 94, 12, 40, 2) := rfl
theorem f219_126 : fetch 219 126 = some (.aload_n 0, 0, 0, 0) := rfl
theorem f219_127 : fetch 219 127 = some (.getfield 304, 12, 32, 0) := rfl
theorem f219_130 : fetch 219 130 = some (.iload 5, 0, 0, 0) := rfl
theorem f219_132 : fetch 219 132 = some (.iastore, 0, 0, 0) := rfl
theorem f219_133 : fetch 219 133 = some (.aload_n 0, 0, 0, 0) := rfl
theorem f219_134 : fetch 219 134 = some (.getfield 97, 12, 41, 2) := rfl
theorem f219_137 : fetch 219 137 = some (.aload_n 0, 0, 0, 0) := rfl
theorem f219_138 : fetch 219 138 = some (.getfield 304, 12, 32, 0) := rfl
theorem f219_141 : fetch 219 141 = some (.iload 6, 0, 0, 0) := rfl
theorem f219_143 : fetch 219 143 = some (.iastore, 0, 0, 0) := rfl
theorem f219_144 : fetch 219 144 = some (.aload_n 0, 0, 0, 0) := rfl
theorem f219_145 : fetch 219 145 = some (.getfield 100, 12, 42, 2) := rfl
theorem f219_148 : fetch 219 148 = some (.aload_n 0, 0, 0, 0) := rfl
theorem f219_149 : fetch 219 149 = some (.getfield 304, 12, 32, 0) := rfl
theorem f219_152 : fetch 219 152 = some (.iload 7, 0, 0, 0) := rfl
theorem f219_154 : fetch 219 154 = some (.iastore, 0, 0, 0) := rfl
theorem f219_155 : fetch 219 155 = some (.aload_n 0, 0, 0, 0) := rfl
theorem f219_156 : fetch 219 156 = some (.getfield 103, 12, 43, 2) := rfl
theorem f219_159 : fetch 219 159 = some (.aload_n 0, 0, 0, 0) := rfl
theorem f219_160 : fetch 219 160 = some (.getfield 304, 12, 32, 0) := rfl
theorem f219_163 : fetch 219 163 = some (.aload_n 0, 0, 0, 0) := rfl
theorem f219_164 : fetch 219 164 = some (.getfield 244, 12, 1, 0) := rfl
theorem f219_167 : fetch 219 167 = some (.iastore, 0, 0, 0) := rfl
theorem f219_168 : fetch 219 168 = some (.aload_n 0, 0, 0, 0) := rfl
theorem f219_169 : fetch 219 169 = some (.getfield 106, 12, 44, 2) := rfl
theorem f219_172 : fetch 219 172 = some (.aload_n 0, 0, 0, 0) := rfl
theorem f219_173 : fetch 219 173 = some (.getfield 304, 12, 32, 0) := rfl
theorem f219_176 : fetch 219 176 = some (.ldc_w 290, 0, 0, 100000) := rfl
theorem f219_179 : fetch 219 179 = some (.iastore, 0, 0, 0) := rfl
theorem f219_180 : fetch 219 180 = some (.aload_n 0, 0, 0, 0) := rfl
theorem f219_181 : fetch 219 181 = some (.dup, 0, 0, 0) := rfl
theorem f219_182 : fetch 219 182 = some (.getfield 304, 12, 32, 0) := rfl
theorem f219_185 : fetch 219 185 = some (.iconst 1, 0, 0, 0) := rfl
theorem f219_186 : fetch 219 186 = some (.iadd, 0, 0, 0) := rfl
theorem f219_187 : fetch 219 187 = some (.putfield 304, 12, 32, 0) := rfl
theorem f219_190 : fetch 219 190 = some (.aload_n 0, 0, 0, 0) := rfl
theorem f219_191 : fetch 219 191 = some (.getfield 304, 12, 32, 0) := rfl
theorem f219_194 : fetch 219 194 = some (.iconst 1, 0, 0, 0) := rfl
theorem f219_195 : fetch 219 195 = some (.isub, 0, 0, 0) := rfl
theorem f219_196 : fetch 219 196 = some (.ireturn, 0, 0, 0) := rfl
set_option maxRecDepth 100000 in
set_option maxHeartbeats 4000000 in
theorem p219_ok (d : Nat) (h : HS) (w : WF h) (a0 : Int32) (a1 : Int32) (a2 : Int32) (a3 : Int32) (a4 : Int32) (a5 : Int32) (a6 : Int32) (r : Int32 × HS) (hp : p219 h a0 a1 a2 a3 a4 a5 a6 = some r) : ex (d + 3) 219 (ent 219 [.ref (86), .int (a0), .int (a1), .int (a2), .int (a3), .int (a4), .int (a5), .int (a6)] h) = some (some (.int (r.1)), r.2) := by
  rw [show ent 219 [.ref (86), .int (a0), .int (a1), .int (a2), .int (a3), .int (a4), .int (a5), .int (a6)] h = (0, [some (.ref (86)), some (.int (a0)), some (.int (a1)), some (.int (a2)), some (.int (a3)), some (.int (a4)), some (.int (a5)), some (.int (a6))], [], h) from by  rfl]
  refine ex_weak (ls := [some (.ref (86)), some (.int (a0)), some (.int (a1)), some (.int (a2)), some (.int (a3)), some (.int (a4)), some (.int (a5)), some (.int (a6))]) (le2_ok ⟨Or.inr rfl, Or.inr rfl, Or.inr rfl, Or.inr rfl, Or.inr rfl, Or.inr rfl, Or.inr rfl, Or.inr rfl, trivial⟩) ?_
  unfold p219 at hp
  refine e_aload_n f219_0 rfl ?_
  refine e_getI f219_1 (WF.t w 86 (by decide)) (by decide) ?_
  refine e_sipush (v := 200) f219_4 (by decide) ?_
  by_cases hc1 : (hI (h) (86) 32) = ((200) : Int32)
  · rw [if_pos hc1] at hp
    refine e_icmp_eq_t f219_7 hc1 ?_
    refine e_iconst (v := -1) f219_79 (by decide) ?_
    have hp := Option.some.inj hp
    subst hp
    exact e_ireturn f219_80 (Or.inl rfl)
  · rw [if_neg hc1] at hp
    refine e_icmp_eq_f f219_7 hc1 ?_
    refine e_aload_n f219_10 rfl ?_
    refine e_iload_n f219_11 rfl ?_
    obtain ⟨r2, hr3, hp⟩ := bind_some hp
    try dsimp only at hp
    refine e_callV (st := []) (o := 86) (as := [.int (a0)]) f219_12 (by decide) rfl rfl (Nat.le_of_ble_eq_true rfl) (WF.t w 86 (by decide)) (Nat.le_of_ble_eq_true rfl) (p206_ok d (h) w (a0) r2 hr3) ?_
    show ex _ 219 (15, [some (.ref (86)), some (.int (a0)), some (.int (a1)), some (.int (a2)), some (.int (a3)), some (.int (a4)), some (.int (a5)), some (.int (a6))], [.int (r2)], h) = _
    by_cases hc4 : (r2) = (0 : Int32)
    · rw [if_pos hc4] at hp
      refine e_if_eq_t f219_15 hc4 ?_
      refine e_iconst (v := -1) f219_79 (by decide) ?_
      have hp := Option.some.inj hp
      subst hp
      exact e_ireturn f219_80 (Or.inl rfl)
    · rw [if_neg hc4] at hp
      refine e_if_eq_f f219_15 hc4 ?_
      refine e_aload_n f219_18 rfl ?_
      refine e_iload_n f219_19 rfl ?_
      obtain ⟨r5, hr6, hp⟩ := bind_some hp
      try dsimp only at hp
      refine e_callV (st := []) (o := 86) (as := [.int (a1)]) f219_20 (by decide) rfl rfl (Nat.le_of_ble_eq_true rfl) (WF.t w 86 (by decide)) (Nat.le_of_ble_eq_true rfl) (p218_ok (d + 1) (h) w (a1) r5 hr6) ?_
      show ex _ 219 (23, [some (.ref (86)), some (.int (a0)), some (.int (a1)), some (.int (a2)), some (.int (a3)), some (.int (a4)), some (.int (a5)), some (.int (a6))], [.int (r5)], h) = _
      by_cases hc7 : (r5) = (0 : Int32)
      · rw [if_pos hc7] at hp
        refine e_if_eq_t f219_23 hc7 ?_
        refine e_iconst (v := -1) f219_79 (by decide) ?_
        have hp := Option.some.inj hp
        subst hp
        exact e_ireturn f219_80 (Or.inl rfl)
      · rw [if_neg hc7] at hp
        refine e_if_eq_f f219_23 hc7 ?_
        refine e_aload_n f219_26 rfl ?_
        refine e_iload_n f219_27 rfl ?_
        obtain ⟨r8, hr9, hp⟩ := bind_some hp
        try dsimp only at hp
        refine e_callV (st := []) (o := 86) (as := [.int (a2)]) f219_28 (by decide) rfl rfl (Nat.le_of_ble_eq_true rfl) (WF.t w 86 (by decide)) (Nat.le_of_ble_eq_true rfl) (p213_ok (d + 1) (h) w (a2) r8 hr9) ?_
        show ex _ 219 (31, [some (.ref (86)), some (.int (a0)), some (.int (a1)), some (.int (a2)), some (.int (a3)), some (.int (a4)), some (.int (a5)), some (.int (a6))], [.int (r8)], h) = _
        by_cases hc10 : (r8) = (0 : Int32)
        · rw [if_pos hc10] at hp
          refine e_if_eq_t f219_31 hc10 ?_
          refine e_iconst (v := -1) f219_79 (by decide) ?_
          have hp := Option.some.inj hp
          subst hp
          exact e_ireturn f219_80 (Or.inl rfl)
        · rw [if_neg hc10] at hp
          refine e_if_eq_f f219_31 hc10 ?_
          refine e_iload f219_34 rfl ?_
          refine e_iconst (v := 0) f219_36 (by decide) ?_
          refine e_bipush (v := 31) f219_37 (by decide) ?_
          obtain ⟨r11, hr12, hp⟩ := bind_some hp
          try dsimp only at hp
          refine e_callS (st := []) (as := [.int (a3), .int (0), .int (31)]) f219_39 (by decide) rfl rfl (Nat.le_of_ble_eq_true rfl) (Nat.le_of_ble_eq_true rfl) (p187_ok (d + 2) (h) w (a3) (0) (31) r11 hr12) ?_
          show ex _ 219 (42, [some (.ref (86)), some (.int (a0)), some (.int (a1)), some (.int (a2)), some (.int (a3)), some (.int (a4)), some (.int (a5)), some (.int (a6))], [.int (r11)], h) = _
          by_cases hc13 : (r11) = (0 : Int32)
          · rw [if_pos hc13] at hp
            refine e_if_eq_t f219_42 hc13 ?_
            refine e_iconst (v := -1) f219_79 (by decide) ?_
            have hp := Option.some.inj hp
            subst hp
            exact e_ireturn f219_80 (Or.inl rfl)
          · rw [if_neg hc13] at hp
            refine e_if_eq_f f219_42 hc13 ?_
            refine e_iload f219_45 rfl ?_
            refine e_iconst (v := 0) f219_47 (by decide) ?_
            refine e_bipush (v := 99) f219_48 (by decide) ?_
            obtain ⟨r14, hr15, hp⟩ := bind_some hp
            try dsimp only at hp
            refine e_callS (st := []) (as := [.int (a4), .int (0), .int (99)]) f219_50 (by decide) rfl rfl (Nat.le_of_ble_eq_true rfl) (Nat.le_of_ble_eq_true rfl) (p187_ok (d + 2) (h) w (a4) (0) (99) r14 hr15) ?_
            show ex _ 219 (53, [some (.ref (86)), some (.int (a0)), some (.int (a1)), some (.int (a2)), some (.int (a3)), some (.int (a4)), some (.int (a5)), some (.int (a6))], [.int (r14)], h) = _
            by_cases hc16 : (r14) = (0 : Int32)
            · rw [if_pos hc16] at hp
              refine e_if_eq_t f219_53 hc16 ?_
              refine e_iconst (v := -1) f219_79 (by decide) ?_
              have hp := Option.some.inj hp
              subst hp
              exact e_ireturn f219_80 (Or.inl rfl)
            · rw [if_neg hc16] at hp
              refine e_if_eq_f f219_53 hc16 ?_
              refine e_iload f219_56 rfl ?_
              obtain ⟨r17, hr18, hp⟩ := bind_some hp
              try dsimp only at hp
              refine e_callS (st := []) (as := [.int (a5)]) f219_58 (by decide) rfl rfl (Nat.le_of_ble_eq_true rfl) (Nat.le_of_ble_eq_true rfl) (p189_ok (d + 1) (h) w (a5) r17 hr18) ?_
              show ex _ 219 (61, [some (.ref (86)), some (.int (a0)), some (.int (a1)), some (.int (a2)), some (.int (a3)), some (.int (a4)), some (.int (a5)), some (.int (a6))], [.int (r17)], h) = _
              by_cases hc19 : (r17) = (0 : Int32)
              · rw [if_pos hc19] at hp
                refine e_if_eq_t f219_61 hc19 ?_
                refine e_iconst (v := -1) f219_79 (by decide) ?_
                have hp := Option.some.inj hp
                subst hp
                exact e_ireturn f219_80 (Or.inl rfl)
              · rw [if_neg hc19] at hp
                refine e_if_eq_f f219_61 hc19 ?_
                refine e_iload f219_64 rfl ?_
                obtain ⟨r20, hr21, hp⟩ := bind_some hp
                try dsimp only at hp
                refine e_callS (st := []) (as := [.int (a6)]) f219_66 (by decide) rfl rfl (Nat.le_of_ble_eq_true rfl) (Nat.le_of_ble_eq_true rfl) (p189_ok (d + 1) (h) w (a6) r20 hr21) ?_
                show ex _ 219 (69, [some (.ref (86)), some (.int (a0)), some (.int (a1)), some (.int (a2)), some (.int (a3)), some (.int (a4)), some (.int (a5)), some (.int (a6))], [.int (r20)], h) = _
                by_cases hc22 : (r20) = (0 : Int32)
                · rw [if_pos hc22] at hp
                  refine e_if_eq_t f219_69 hc22 ?_
                  refine e_iconst (v := -1) f219_79 (by decide) ?_
                  have hp := Option.some.inj hp
                  subst hp
                  exact e_ireturn f219_80 (Or.inl rfl)
                · rw [if_neg hc22] at hp
                  refine e_if_eq_f f219_69 hc22 ?_
                  refine e_iload f219_72 rfl ?_
                  refine e_iload f219_74 rfl ?_
                  by_cases hc23 : (a6) < ((a5) : Int32)
                  · rw [if_pos hc23] at hp
                    refine e_icmp_ge_f f219_76 hc23 ?_
                    refine e_iconst (v := -1) f219_79 (by decide) ?_
                    have hp := Option.some.inj hp
                    subst hp
                    exact e_ireturn f219_80 (Or.inl rfl)
                  · rw [if_neg hc23] at hp
                    refine e_icmp_ge_t f219_76 hc23 ?_
                    refine e_aload_n f219_81 rfl ?_
                    refine e_getR f219_82 (WF.t w 86 (by decide)) rfl (WF.r (q := 111) w 86 36 (by decide)) ?_
                    refine e_aload_n f219_85 rfl ?_
                    refine e_getI f219_86 (WF.t w 86 (by decide)) (by decide) ?_
                    refine e_iload_n f219_89 rfl ?_
                    by_cases hg24 : (hI (h) (86) 32) < (0 : Int32) ∨ 200 ≤ (hI (h) (86) 32).toNatClampNeg
                    · rw [if_pos hg24] at hp; cases hp
                    rw [if_neg hg24] at hp
                    refine e_iastore f219_90 (WF.t w 111 (by decide)) (WF.n w 111 (by decide)) hg24 ?_
                    refine e_aload_n f219_91 rfl ?_
                    refine e_getR f219_92 (WF.t w 86 (by decide)) rfl (WF.r (q := 112) w 86 37 (by decide)) ?_
                    refine e_aload_n f219_95 rfl ?_
                    refine e_getI f219_96 (WF.t w 86 (by decide)) (by decide) ?_
                    refine e_iload_n f219_99 rfl ?_
                    by_cases hg25 : (hI (hsI (h) (111) (hI (h) (86) 32).toNatClampNeg (a0)) (86) 32) < (0 : Int32) ∨ 200 ≤ (hI (hsI (h) (111) (hI (h) (86) 32).toNatClampNeg (a0)) (86) 32).toNatClampNeg
                    · rw [if_pos hg25] at hp; cases hp
                    rw [if_neg hg25] at hp
                    refine e_iastore f219_100 (WF.t w 112 (by decide)) (WF.n w 112 (by decide)) hg25 ?_
                    obtain ⟨h26, e27, hp⟩ := bind_some hp
                    try dsimp only at hp
                    have e27 := Option.some.inj e27
                    have w28 : WF h26 := e27 ▸ w
                    rw [e27]
                    refine e_aload_n f219_101 rfl ?_
                    refine e_getR f219_102 (WF.t w28 86 (by decide)) rfl (WF.r (q := 113) w28 86 38 (by decide)) ?_
                    refine e_aload_n f219_105 rfl ?_
                    refine e_getI f219_106 (WF.t w28 86 (by decide)) (by decide) ?_
                    refine e_iload_n f219_109 rfl ?_
                    by_cases hg29 : (hI (h26) (86) 32) < (0 : Int32) ∨ 200 ≤ (hI (h26) (86) 32).toNatClampNeg
                    · rw [if_pos hg29] at hp; cases hp
                    rw [if_neg hg29] at hp
                    refine e_iastore f219_110 (WF.t w28 113 (by decide)) (WF.n w28 113 (by decide)) hg29 ?_
                    refine e_aload_n f219_111 rfl ?_
                    refine e_getR f219_112 (WF.t w28 86 (by decide)) rfl (WF.r (q := 114) w28 86 39 (by decide)) ?_
                    refine e_aload_n f219_115 rfl ?_
                    refine e_getI f219_116 (WF.t w28 86 (by decide)) (by decide) ?_
                    refine e_iload f219_119 rfl ?_
                    by_cases hg30 : (hI (hsI (h26) (113) (hI (h26) (86) 32).toNatClampNeg (a2)) (86) 32) < (0 : Int32) ∨ 200 ≤ (hI (hsI (h26) (113) (hI (h26) (86) 32).toNatClampNeg (a2)) (86) 32).toNatClampNeg
                    · rw [if_pos hg30] at hp; cases hp
                    rw [if_neg hg30] at hp
                    refine e_iastore f219_121 (WF.t w28 114 (by decide)) (WF.n w28 114 (by decide)) hg30 ?_
                    obtain ⟨h31, e32, hp⟩ := bind_some hp
                    try dsimp only at hp
                    have e32 := Option.some.inj e32
                    have w33 : WF h31 := e32 ▸ w28
                    rw [e32]
                    refine e_aload_n f219_122 rfl ?_
                    refine e_getR f219_123 (WF.t w33 86 (by decide)) rfl (WF.r (q := 115) w33 86 40 (by decide)) ?_
                    refine e_aload_n f219_126 rfl ?_
                    refine e_getI f219_127 (WF.t w33 86 (by decide)) (by decide) ?_
                    refine e_iload f219_130 rfl ?_
                    by_cases hg34 : (hI (h31) (86) 32) < (0 : Int32) ∨ 200 ≤ (hI (h31) (86) 32).toNatClampNeg
                    · rw [if_pos hg34] at hp; cases hp
                    rw [if_neg hg34] at hp
                    refine e_iastore f219_132 (WF.t w33 115 (by decide)) (WF.n w33 115 (by decide)) hg34 ?_
                    refine e_aload_n f219_133 rfl ?_
                    refine e_getR f219_134 (WF.t w33 86 (by decide)) rfl (WF.r (q := 116) w33 86 41 (by decide)) ?_
                    refine e_aload_n f219_137 rfl ?_
                    refine e_getI f219_138 (WF.t w33 86 (by decide)) (by decide) ?_
                    refine e_iload f219_141 rfl ?_
                    by_cases hg35 : (hI (hsI (h31) (115) (hI (h31) (86) 32).toNatClampNeg (a4)) (86) 32) < (0 : Int32) ∨ 200 ≤ (hI (hsI (h31) (115) (hI (h31) (86) 32).toNatClampNeg (a4)) (86) 32).toNatClampNeg
                    · rw [if_pos hg35] at hp; cases hp
                    rw [if_neg hg35] at hp
                    refine e_iastore f219_143 (WF.t w33 116 (by decide)) (WF.n w33 116 (by decide)) hg35 ?_
                    obtain ⟨h36, e37, hp⟩ := bind_some hp
                    try dsimp only at hp
                    have e37 := Option.some.inj e37
                    have w38 : WF h36 := e37 ▸ w33
                    rw [e37]
                    refine e_aload_n f219_144 rfl ?_
                    refine e_getR f219_145 (WF.t w38 86 (by decide)) rfl (WF.r (q := 117) w38 86 42 (by decide)) ?_
                    refine e_aload_n f219_148 rfl ?_
                    refine e_getI f219_149 (WF.t w38 86 (by decide)) (by decide) ?_
                    refine e_iload f219_152 rfl ?_
                    by_cases hg39 : (hI (h36) (86) 32) < (0 : Int32) ∨ 200 ≤ (hI (h36) (86) 32).toNatClampNeg
                    · rw [if_pos hg39] at hp; cases hp
                    rw [if_neg hg39] at hp
                    refine e_iastore f219_154 (WF.t w38 117 (by decide)) (WF.n w38 117 (by decide)) hg39 ?_
                    refine e_aload_n f219_155 rfl ?_
                    refine e_getR f219_156 (WF.t w38 86 (by decide)) rfl (WF.r (q := 118) w38 86 43 (by decide)) ?_
                    refine e_aload_n f219_159 rfl ?_
                    refine e_getI f219_160 (WF.t w38 86 (by decide)) (by decide) ?_
                    refine e_aload_n f219_163 rfl ?_
                    refine e_getI f219_164 (WF.t w38 86 (by decide)) (by decide) ?_
                    by_cases hg40 : (hI (hsI (h36) (117) (hI (h36) (86) 32).toNatClampNeg (a6)) (86) 32) < (0 : Int32) ∨ 200 ≤ (hI (hsI (h36) (117) (hI (h36) (86) 32).toNatClampNeg (a6)) (86) 32).toNatClampNeg
                    · rw [if_pos hg40] at hp; cases hp
                    rw [if_neg hg40] at hp
                    refine e_iastore f219_167 (WF.t w38 118 (by decide)) (WF.n w38 118 (by decide)) hg40 ?_
                    obtain ⟨h41, e42, hp⟩ := bind_some hp
                    try dsimp only at hp
                    have e42 := Option.some.inj e42
                    have w43 : WF h41 := e42 ▸ w38
                    rw [e42]
                    refine e_aload_n f219_168 rfl ?_
                    refine e_getR f219_169 (WF.t w43 86 (by decide)) rfl (WF.r (q := 119) w43 86 44 (by decide)) ?_
                    refine e_aload_n f219_172 rfl ?_
                    refine e_getI f219_173 (WF.t w43 86 (by decide)) (by decide) ?_
                    refine e_ldcw (v := 100000) f219_176 (by decide) (by decide) ?_
                    by_cases hg44 : (hI (h41) (86) 32) < (0 : Int32) ∨ 200 ≤ (hI (h41) (86) 32).toNatClampNeg
                    · rw [if_pos hg44] at hp; cases hp
                    rw [if_neg hg44] at hp
                    refine e_iastore f219_179 (WF.t w43 119 (by decide)) (WF.n w43 119 (by decide)) hg44 ?_
                    refine e_aload_n f219_180 rfl ?_
                    refine e_dup f219_181 rfl ?_
                    refine e_getI f219_182 (WF.t w43 86 (by decide)) (by decide) ?_
                    refine e_iconst (v := 1) f219_185 (by decide) ?_
                    refine e_iadd f219_186 ?_
                    refine e_putI f219_187 (WF.t w43 86 (by decide)) rfl ?_
                    obtain ⟨h45, e46, hp⟩ := bind_some hp
                    try dsimp only at hp
                    have e46 := Option.some.inj e46
                    have w47 : WF h45 := e46 ▸ w43
                    rw [e46]
                    refine e_aload_n f219_190 rfl ?_
                    refine e_getI f219_191 (WF.t w47 86 (by decide)) (by decide) ?_
                    refine e_iconst (v := 1) f219_194 (by decide) ?_
                    refine e_isub f219_195 ?_
                    have hp := Option.some.inj hp
                    subst hp
                    exact e_ireturn f219_196 (Or.inl rfl)
set_option maxRecDepth 100000 in
set_option maxHeartbeats 4000000 in
theorem p219_w (h : HS) (w : WF h) (a0 : Int32) (a1 : Int32) (a2 : Int32) (a3 : Int32) (a4 : Int32) (a5 : Int32) (a6 : Int32) (r : Int32 × HS) (hp : p219 h a0 a1 a2 a3 a4 a5 a6 = some r) : WF r.2 := by
  unfold p219 at hp
  by_cases hc1 : (hI (h) (86) 32) = ((200) : Int32)
  · rw [if_pos hc1] at hp
    have hp := Option.some.inj hp
    subst hp
    exact (w)
  · rw [if_neg hc1] at hp
    obtain ⟨r2, hr3, hp⟩ := bind_some hp
    try dsimp only at hp
    by_cases hc4 : (r2) = (0 : Int32)
    · rw [if_pos hc4] at hp
      have hp := Option.some.inj hp
      subst hp
      exact (w)
    · rw [if_neg hc4] at hp
      obtain ⟨r5, hr6, hp⟩ := bind_some hp
      try dsimp only at hp
      by_cases hc7 : (r5) = (0 : Int32)
      · rw [if_pos hc7] at hp
        have hp := Option.some.inj hp
        subst hp
        exact (w)
      · rw [if_neg hc7] at hp
        obtain ⟨r8, hr9, hp⟩ := bind_some hp
        try dsimp only at hp
        by_cases hc10 : (r8) = (0 : Int32)
        · rw [if_pos hc10] at hp
          have hp := Option.some.inj hp
          subst hp
          exact (w)
        · rw [if_neg hc10] at hp
          obtain ⟨r11, hr12, hp⟩ := bind_some hp
          try dsimp only at hp
          by_cases hc13 : (r11) = (0 : Int32)
          · rw [if_pos hc13] at hp
            have hp := Option.some.inj hp
            subst hp
            exact (w)
          · rw [if_neg hc13] at hp
            obtain ⟨r14, hr15, hp⟩ := bind_some hp
            try dsimp only at hp
            by_cases hc16 : (r14) = (0 : Int32)
            · rw [if_pos hc16] at hp
              have hp := Option.some.inj hp
              subst hp
              exact (w)
            · rw [if_neg hc16] at hp
              obtain ⟨r17, hr18, hp⟩ := bind_some hp
              try dsimp only at hp
              by_cases hc19 : (r17) = (0 : Int32)
              · rw [if_pos hc19] at hp
                have hp := Option.some.inj hp
                subst hp
                exact (w)
              · rw [if_neg hc19] at hp
                obtain ⟨r20, hr21, hp⟩ := bind_some hp
                try dsimp only at hp
                by_cases hc22 : (r20) = (0 : Int32)
                · rw [if_pos hc22] at hp
                  have hp := Option.some.inj hp
                  subst hp
                  exact (w)
                · rw [if_neg hc22] at hp
                  by_cases hc23 : (a6) < ((a5) : Int32)
                  · rw [if_pos hc23] at hp
                    have hp := Option.some.inj hp
                    subst hp
                    exact (w)
                  · rw [if_neg hc23] at hp
                    by_cases hg24 : (hI (h) (86) 32) < (0 : Int32) ∨ 200 ≤ (hI (h) (86) 32).toNatClampNeg
                    · rw [if_pos hg24] at hp; cases hp
                    rw [if_neg hg24] at hp
                    by_cases hg25 : (hI (hsI (h) (111) (hI (h) (86) 32).toNatClampNeg (a0)) (86) 32) < (0 : Int32) ∨ 200 ≤ (hI (hsI (h) (111) (hI (h) (86) 32).toNatClampNeg (a0)) (86) 32).toNatClampNeg
                    · rw [if_pos hg25] at hp; cases hp
                    rw [if_neg hg25] at hp
                    obtain ⟨h26, e27, hp⟩ := bind_some hp
                    try dsimp only at hp
                    have e27 := Option.some.inj e27
                    have w28 : WF h26 := e27 ▸ w
                    by_cases hg29 : (hI (h26) (86) 32) < (0 : Int32) ∨ 200 ≤ (hI (h26) (86) 32).toNatClampNeg
                    · rw [if_pos hg29] at hp; cases hp
                    rw [if_neg hg29] at hp
                    by_cases hg30 : (hI (hsI (h26) (113) (hI (h26) (86) 32).toNatClampNeg (a2)) (86) 32) < (0 : Int32) ∨ 200 ≤ (hI (hsI (h26) (113) (hI (h26) (86) 32).toNatClampNeg (a2)) (86) 32).toNatClampNeg
                    · rw [if_pos hg30] at hp; cases hp
                    rw [if_neg hg30] at hp
                    obtain ⟨h31, e32, hp⟩ := bind_some hp
                    try dsimp only at hp
                    have e32 := Option.some.inj e32
                    have w33 : WF h31 := e32 ▸ w28
                    by_cases hg34 : (hI (h31) (86) 32) < (0 : Int32) ∨ 200 ≤ (hI (h31) (86) 32).toNatClampNeg
                    · rw [if_pos hg34] at hp; cases hp
                    rw [if_neg hg34] at hp
                    by_cases hg35 : (hI (hsI (h31) (115) (hI (h31) (86) 32).toNatClampNeg (a4)) (86) 32) < (0 : Int32) ∨ 200 ≤ (hI (hsI (h31) (115) (hI (h31) (86) 32).toNatClampNeg (a4)) (86) 32).toNatClampNeg
                    · rw [if_pos hg35] at hp; cases hp
                    rw [if_neg hg35] at hp
                    obtain ⟨h36, e37, hp⟩ := bind_some hp
                    try dsimp only at hp
                    have e37 := Option.some.inj e37
                    have w38 : WF h36 := e37 ▸ w33
                    by_cases hg39 : (hI (h36) (86) 32) < (0 : Int32) ∨ 200 ≤ (hI (h36) (86) 32).toNatClampNeg
                    · rw [if_pos hg39] at hp; cases hp
                    rw [if_neg hg39] at hp
                    by_cases hg40 : (hI (hsI (h36) (117) (hI (h36) (86) 32).toNatClampNeg (a6)) (86) 32) < (0 : Int32) ∨ 200 ≤ (hI (hsI (h36) (117) (hI (h36) (86) 32).toNatClampNeg (a6)) (86) 32).toNatClampNeg
                    · rw [if_pos hg40] at hp; cases hp
                    rw [if_neg hg40] at hp
                    obtain ⟨h41, e42, hp⟩ := bind_some hp
                    try dsimp only at hp
                    have e42 := Option.some.inj e42
                    have w43 : WF h41 := e42 ▸ w38
                    by_cases hg44 : (hI (h41) (86) 32) < (0 : Int32) ∨ 200 ≤ (hI (h41) (86) 32).toNatClampNeg
                    · rw [if_pos hg44] at hp; cases hp
                    rw [if_neg hg44] at hp
                    obtain ⟨h45, e46, hp⟩ := bind_some hp
                    try dsimp only at hp
                    have e46 := Option.some.inj e46
                    have w47 : WF h45 := e46 ▸ w43
                    have hp := Option.some.inj hp
                    subst hp
                    exact (w47)
theorem f220_0 : fetch 220 0 = some (.iload_n 1, 0, 0, 0) := rfl
theorem f220_1 : fetch 220 1 = some (.iconst 0, 0, 0, 0) := rfl
theorem f220_2 : fetch 220 2 = some (.aload_n 0, 0, 0, 0) := rfl
theorem f220_3 : fetch 220 3 = some (.getfield 304, 12, 32, 0) := rfl
theorem f220_6 : fetch 220 6 = some (.iconst 1, 0, 0, 0) := rfl
theorem f220_7 : fetch 220 7 = some (.isub, 0, 0, 0) := rfl
theorem f220_8 : fetch 220 8 = some (.invokestatic 240, 187, 3, 1) := rfl
theorem f220_11 : fetch 220 11 = some (.ireturn, 0, 0, 1) := rfl
set_option maxRecDepth 100000 in
set_option maxHeartbeats 4000000 in
theorem p220_ok (d : Nat) (h : HS) (w : WF h) (a0 : Int32) (r : Int32) (hp : p220 h a0 = some r) : ex (d + 1) 220 (ent 220 [.ref (86), .int (a0)] h) = some (some (.int (r)), h) := by
  rw [show ent 220 [.ref (86), .int (a0)] h = (0, [some (.ref (86)), some (.int (a0))], [], h) from by  rfl]
  refine ex_weak (ls := [some (.ref (86)), some (.int (a0))]) (le2_ok ⟨Or.inr rfl, Or.inr rfl, trivial⟩) ?_
  unfold p220 at hp
  refine e_iload_n f220_0 rfl ?_
  refine e_iconst (v := 0) f220_1 (by decide) ?_
  refine e_aload_n f220_2 rfl ?_
  refine e_getI f220_3 (WF.t w 86 (by decide)) (by decide) ?_
  refine e_iconst (v := 1) f220_6 (by decide) ?_
  refine e_isub f220_7 ?_
  obtain ⟨r1, hr2, hp⟩ := bind_some hp
  try dsimp only at hp
  refine e_callS (st := []) (as := [.int (a0), .int (0), .int ((hI (h) (86) 32) - (1))]) f220_8 (by decide) rfl rfl (Nat.le_of_ble_eq_true rfl) (Nat.le_of_ble_eq_true rfl) (p187_ok d (h) w (a0) (0) ((hI (h) (86) 32) - (1)) r1 hr2) ?_
  show ex _ 220 (11, [some (.ref (86)), some (.int (a0))], [.int (r1)], h) = _
  by_cases hg3 : (r1) = (0 : Int32) ∨ (r1) = (1 : Int32)
  rotate_left
  · rw [if_neg hg3] at hp; cases hp
  rw [if_pos hg3] at hp
  have hp := Option.some.inj hp
  subst hp
  exact e_ireturn f220_11 (Or.inr hg3)
theorem f221_0 : fetch 221 0 = some (.aload_n 0, 0, 0, 0) := rfl
theorem f221_1 : fetch 221 1 = some (.iload_n 1, 0, 0, 0) := rfl
theorem f221_2 : fetch 221 2 = some (.invokevirtual 332, 220, 1, 0) := rfl
theorem f221_5 : fetch 221 5 = some (.ifCond .eq 15, 20, 0, 0) := rfl
theorem f221_8 : fetch 221 8 = some (.aload_n 0, 0, 0, 0) := rfl
theorem f221_9 : fetch 221 9 = some (.getfield 106, 12, 44, 2) := rfl
theorem f221_12 : fetch 221 12 = some (.iload_n 1, 0, 0, 0) := rfl
theorem f221_13 : fetch 221 13 = some (.iaload, 0, 0, 0) := rfl
theorem f221_14 : fetch 221 14 = some (.ldc_w 290, 0, 0, 100000) := rfl
theorem f221_17 : fetch 221 17 = some (.if_icmp .eq 5, 22, 0, 0) := rfl
theorem f221_20 : fetch 221 20 = some (.iconst 0, 0, 0, 0) := rfl
theorem f221_21 : fetch 221 21 = some (.ireturn, 0, 0, 1) := rfl
theorem f221_22 : fetch 221 22 = some (.aload_n 0, 0, 0, 0) := rfl
theorem f221_23 : fetch 221 23 = some (.getfield 106, 12, 44, 2) := rfl
theorem f221_26 : fetch 221 26 = some (.iload_n 1, 0, 0, 0) := rfl
theorem f221_27 : fetch 221 27 = some (.aload_n 0, 0, 0, 0) := rfl
theorem f221_28 : fetch 221 28 = some (.getfield 244, 12, 1, 0) := rfl
theorem f221_31 : fetch 221 31 = some (.iastore, 0, 0, 0) := rfl
theorem f221_32 : fetch 221 32 = some (.iconst 1, 0, 0, 0) := rfl
theorem f221_33 : fetch 221 33 = some (.ireturn, 0, 0, 1) := rfl
set_option maxRecDepth 100000 in
set_option maxHeartbeats 4000000 in
theorem p221_ok (d : Nat) (h : HS) (w : WF h) (a0 : Int32) (r : Int32 × HS) (hp : p221 h a0 = some r) : ex (d + 2) 221 (ent 221 [.ref (86), .int (a0)] h) = some (some (.int (r.1)), r.2) := by
  rw [show ent 221 [.ref (86), .int (a0)] h = (0, [some (.ref (86)), some (.int (a0))], [], h) from by  rfl]
  refine ex_weak (ls := [some (.ref (86)), some (.int (a0))]) (le2_ok ⟨Or.inr rfl, Or.inr rfl, trivial⟩) ?_
  unfold p221 at hp
  refine e_aload_n f221_0 rfl ?_
  refine e_iload_n f221_1 rfl ?_
  obtain ⟨r1, hr2, hp⟩ := bind_some hp
  try dsimp only at hp
  refine e_callV (st := []) (o := 86) (as := [.int (a0)]) f221_2 (by decide) rfl rfl (Nat.le_of_ble_eq_true rfl) (WF.t w 86 (by decide)) (Nat.le_of_ble_eq_true rfl) (p220_ok d (h) w (a0) r1 hr2) ?_
  show ex _ 221 (5, [some (.ref (86)), some (.int (a0))], [.int (r1)], h) = _
  by_cases hc3 : (r1) = (0 : Int32)
  · rw [if_pos hc3] at hp
    refine e_if_eq_t f221_5 hc3 ?_
    refine e_iconst (v := 0) f221_20 (by decide) ?_
    have hp := Option.some.inj hp
    subst hp
    exact e_ireturn f221_21 (by decide)
  · rw [if_neg hc3] at hp
    refine e_if_eq_f f221_5 hc3 ?_
    refine e_aload_n f221_8 rfl ?_
    refine e_getR f221_9 (WF.t w 86 (by decide)) rfl (WF.r (q := 119) w 86 44 (by decide)) ?_
    refine e_iload_n f221_12 rfl ?_
    by_cases hg4 : (a0) < (0 : Int32) ∨ 200 ≤ (a0).toNatClampNeg
    · rw [if_pos hg4] at hp; cases hp
    rw [if_neg hg4] at hp
    refine e_iaload f221_13 (Or.inl (WF.t w 119 (by decide))) (WF.n w 119 (by decide)) hg4 ?_
    refine e_ldcw (v := 100000) f221_14 (by decide) (by decide) ?_
    by_cases hc5 : (hI (h) (119) (a0).toNatClampNeg) = ((100000) : Int32)
    · rw [if_pos hc5] at hp
      refine e_icmp_eq_t f221_17 hc5 ?_
      refine e_aload_n f221_22 rfl ?_
      refine e_getR f221_23 (WF.t w 86 (by decide)) rfl (WF.r (q := 119) w 86 44 (by decide)) ?_
      refine e_iload_n f221_26 rfl ?_
      refine e_aload_n f221_27 rfl ?_
      refine e_getI f221_28 (WF.t w 86 (by decide)) (by decide) ?_
      by_cases hg6 : (a0) < (0 : Int32) ∨ 200 ≤ (a0).toNatClampNeg
      · rw [if_pos hg6] at hp; cases hp
      rw [if_neg hg6] at hp
      refine e_iastore f221_31 (WF.t w 119 (by decide)) (WF.n w 119 (by decide)) hg6 ?_
      refine e_iconst (v := 1) f221_32 (by decide) ?_
      have hp := Option.some.inj hp
      subst hp
      exact e_ireturn f221_33 (by decide)
    · rw [if_neg hc5] at hp
      refine e_icmp_eq_f f221_17 hc5 ?_
      refine e_iconst (v := 0) f221_20 (by decide) ?_
      have hp := Option.some.inj hp
      subst hp
      exact e_ireturn f221_21 (by decide)
set_option maxRecDepth 100000 in
set_option maxHeartbeats 4000000 in
theorem p221_w (h : HS) (w : WF h) (a0 : Int32) (r : Int32 × HS) (hp : p221 h a0 = some r) : WF r.2 := by
  unfold p221 at hp
  obtain ⟨r1, hr2, hp⟩ := bind_some hp
  try dsimp only at hp
  by_cases hc3 : (r1) = (0 : Int32)
  · rw [if_pos hc3] at hp
    have hp := Option.some.inj hp
    subst hp
    exact (w)
  · rw [if_neg hc3] at hp
    by_cases hg4 : (a0) < (0 : Int32) ∨ 200 ≤ (a0).toNatClampNeg
    · rw [if_pos hg4] at hp; cases hp
    rw [if_neg hg4] at hp
    by_cases hc5 : (hI (h) (119) (a0).toNatClampNeg) = ((100000) : Int32)
    · rw [if_pos hc5] at hp
      by_cases hg6 : (a0) < (0 : Int32) ∨ 200 ≤ (a0).toNatClampNeg
      · rw [if_pos hg6] at hp; cases hp
      rw [if_neg hg6] at hp
      have hp := Option.some.inj hp
      subst hp
      exact (w)
    · rw [if_neg hc5] at hp
      have hp := Option.some.inj hp
      subst hp
      exact (w)
theorem f222_0 : fetch 222 0 = some (.aload_n 0, 0, 0, 0) := rfl
theorem f222_1 : fetch 222 1 = some (.getfield 103, 12, 43, 2) := rfl
theorem f222_4 : fetch 222 4 = some (.iload_n 1, 0, 0, 0) := rfl
theorem f222_5 : fetch 222 5 = some (.iaload, 0, 0, 0) := rfl
theorem f222_6 : fetch 222 6 = some (.iload_n 2, 0, 0, 0) := rfl
theorem f222_7 : fetch 222 7 = some (.if_icmp .gt 32, 39, 0, 0) := rfl
theorem f222_10 : fetch 222 10 = some (.aload_n 0, 0, 0, 0) := rfl
theorem f222_11 : fetch 222 11 = some (.getfield 106, 12, 44, 2) := rfl
theorem f222_14 : fetch 222 14 = some (.iload_n 1, 0, 0, 0) := rfl
theorem f222_15 : fetch 222 15 = some (.iaload, 0, 0, 0) := rfl
theorem f222_16 : fetch 222 16 = some (.iload_n 2, 0, 0, 0) := rfl
theorem f222_17 : fetch 222 17 = some (.if_icmp .le 22, 39, 0, 0) := rfl
theorem f222_20 : fetch 222 20 = some (.aload_n 0, 0, 0, 0) := rfl
theorem f222_21 : fetch 222 21 = some (.getfield 37, 12, 16, 2) := rfl
theorem f222_24 : fetch 222 24 = some (.aload_n 0, 0, 0, 0) := rfl
theorem f222_25 : fetch 222 25 = some (.getfield 82, 12, 36, 2) := rfl
theorem f222_28 : fetch 222 28 = some (.iload_n 1, 0, 0, 0) := rfl
theorem f222_29 : fetch 222 29 = some (.iaload, 0, 0, 0) := rfl
theorem f222_30 : fetch 222 30 = some (.iaload, 0, 0, 0) := rfl
theorem f222_31 : fetch 222 31 = some (.iload_n 2, 0, 0, 0) := rfl
theorem f222_32 : fetch 222 32 = some (.if_icmp .gt 7, 39, 0, 0) := rfl
theorem f222_35 : fetch 222 35 = some (.iconst 1, 0, 0, 0) := rfl
theorem f222_36 : fetch 222 36 = some (.goto 4, 40, 0, 0) := rfl
theorem f222_39 : fetch 222 39 = some (.iconst 0, 0, 0, 0) := rfl
theorem f222_40 : fetch 222 40 = some (.ireturn, 0, 0, 1) := rfl
set_option maxRecDepth 100000 in
set_option maxHeartbeats 4000000 in
theorem p222_ok (d : Nat) (h : HS) (w : WF h) (a0 : Int32) (a1 : Int32) (r : Int32) (hp : p222 h a0 a1 = some r) : ex (d + 0) 222 (ent 222 [.ref (86), .int (a0), .int (a1)] h) = some (some (.int (r)), h) := by
  rw [show ent 222 [.ref (86), .int (a0), .int (a1)] h = (0, [some (.ref (86)), some (.int (a0)), some (.int (a1))], [], h) from by  rfl]
  refine ex_weak (ls := [some (.ref (86)), some (.int (a0)), some (.int (a1))]) (le2_ok ⟨Or.inr rfl, Or.inr rfl, Or.inr rfl, trivial⟩) ?_
  unfold p222 at hp
  refine e_aload_n f222_0 rfl ?_
  refine e_getR f222_1 (WF.t w 86 (by decide)) rfl (WF.r (q := 118) w 86 43 (by decide)) ?_
  refine e_iload_n f222_4 rfl ?_
  by_cases hg1 : (a0) < (0 : Int32) ∨ 200 ≤ (a0).toNatClampNeg
  · rw [if_pos hg1] at hp; cases hp
  rw [if_neg hg1] at hp
  refine e_iaload f222_5 (Or.inl (WF.t w 118 (by decide))) (WF.n w 118 (by decide)) hg1 ?_
  refine e_iload_n f222_6 rfl ?_
  by_cases hc2 : (a1) < ((hI (h) (118) (a0).toNatClampNeg) : Int32)
  · rw [if_pos hc2] at hp
    refine e_icmp_gt_t f222_7 hc2 ?_
    refine e_iconst (v := 0) f222_39 (by decide) ?_
    have hp := Option.some.inj hp
    subst hp
    exact e_ireturn f222_40 (by decide)
  · rw [if_neg hc2] at hp
    refine e_icmp_gt_f f222_7 hc2 ?_
    refine e_aload_n f222_10 rfl ?_
    refine e_getR f222_11 (WF.t w 86 (by decide)) rfl (WF.r (q := 119) w 86 44 (by decide)) ?_
    refine e_iload_n f222_14 rfl ?_
    by_cases hg3 : (a0) < (0 : Int32) ∨ 200 ≤ (a0).toNatClampNeg
    · rw [if_pos hg3] at hp; cases hp
    rw [if_neg hg3] at hp
    refine e_iaload f222_15 (Or.inl (WF.t w 119 (by decide))) (WF.n w 119 (by decide)) hg3 ?_
    refine e_iload_n f222_16 rfl ?_
    by_cases hc4 : (a1) < ((hI (h) (119) (a0).toNatClampNeg) : Int32)
    · rw [if_pos hc4] at hp
      refine e_icmp_le_f f222_17 hc4 ?_
      refine e_aload_n f222_20 rfl ?_
      refine e_getR f222_21 (WF.t w 86 (by decide)) rfl (WF.r (q := 96) w 86 16 (by decide)) ?_
      refine e_aload_n f222_24 rfl ?_
      refine e_getR f222_25 (WF.t w 86 (by decide)) rfl (WF.r (q := 111) w 86 36 (by decide)) ?_
      refine e_iload_n f222_28 rfl ?_
      by_cases hg5 : (a0) < (0 : Int32) ∨ 200 ≤ (a0).toNatClampNeg
      · rw [if_pos hg5] at hp; cases hp
      rw [if_neg hg5] at hp
      refine e_iaload f222_29 (Or.inl (WF.t w 111 (by decide))) (WF.n w 111 (by decide)) hg5 ?_
      by_cases hg6 : (hI (h) (111) (a0).toNatClampNeg) < (0 : Int32) ∨ 200 ≤ (hI (h) (111) (a0).toNatClampNeg).toNatClampNeg
      · rw [if_pos hg6] at hp; cases hp
      rw [if_neg hg6] at hp
      refine e_iaload f222_30 (Or.inl (WF.t w 96 (by decide))) (WF.n w 96 (by decide)) hg6 ?_
      refine e_iload_n f222_31 rfl ?_
      by_cases hc7 : (a1) < ((hI (h) (96) (hI (h) (111) (a0).toNatClampNeg).toNatClampNeg) : Int32)
      · rw [if_pos hc7] at hp
        refine e_icmp_gt_t f222_32 hc7 ?_
        refine e_iconst (v := 0) f222_39 (by decide) ?_
        have hp := Option.some.inj hp
        subst hp
        exact e_ireturn f222_40 (by decide)
      · rw [if_neg hc7] at hp
        refine e_icmp_gt_f f222_32 hc7 ?_
        refine e_iconst (v := 1) f222_35 (by decide) ?_
        refine e_goto f222_36 ?_
        have hp := Option.some.inj hp
        subst hp
        exact e_ireturn f222_40 (by decide)
    · rw [if_neg hc4] at hp
      refine e_icmp_le_t f222_17 hc4 ?_
      refine e_iconst (v := 0) f222_39 (by decide) ?_
      have hp := Option.some.inj hp
      subst hp
      exact e_ireturn f222_40 (by decide)
