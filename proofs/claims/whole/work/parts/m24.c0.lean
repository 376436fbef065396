theorem f166_0 : fetch 166 0 = some (.iload_n 0, 0, 0, 0) := rfl
theorem f166_1 : fetch 166 1 = some (.iload_n 1, 0, 0, 0) := rfl
theorem f166_2 : fetch 166 2 = some (.if_icmp .lt 12, 14, 0, 0) := rfl
theorem f166_5 : fetch 166 5 = some (.iload_n 0, 0, 0, 0) := rfl
theorem f166_6 : fetch 166 6 = some (.iload_n 2, 0, 0, 0) := rfl
theorem f166_7 : fetch 166 7 = some (.if_icmp .gt 7, 14, 0, 0) := rfl
theorem f166_10 : fetch 166 10 = some (.iconst 1, 0, 0, 0) := rfl
theorem f166_11 : fetch 166 11 = some (.goto 4, 15, 0, 0) := rfl
theorem f166_14 : fetch 166 14 = some (.iconst 0, 0, 0, 0) := rfl
theorem f166_15 : fetch 166 15 = some (.ireturn, 0, 0, 1) := rfl
set_option maxRecDepth 100000 in
set_option maxHeartbeats 4000000 in
theorem p166_ok (d : Nat) (h : HS) (w : WF h) (a0 : Int32) (a1 : Int32) (a2 : Int32) (r : Int32) (hp : p166 h a0 a1 a2 = some r) : ex (d + 0) 166 (ent 166 [.int (a0), .int (a1), .int (a2)] h) = some (some (.int (r)), h) := by
  rw [show ent 166 [.int (a0), .int (a1), .int (a2)] h = (0, [some (.int (a0)), some (.int (a1)), some (.int (a2))], [], h) from by  rfl]
  refine ex_weak (ls := [some (.int (a0)), some (.int (a1)), some (.int (a2))]) (le2_ok ⟨Or.inr rfl, Or.inr rfl, Or.inr rfl, trivial⟩) ?_
  unfold p166 at hp
  refine e_iload_n f166_0 rfl ?_
  refine e_iload_n f166_1 rfl ?_
  by_cases hc1 : (a0) < ((a1) : Int32)
  · rw [if_pos hc1] at hp
    refine e_icmp_lt_t f166_2 hc1 ?_
    refine e_iconst (v := 0) f166_14 (by decide) ?_
    have hp := Option.some.inj hp
    subst hp
    exact e_ireturn f166_15 (by decide)
  · rw [if_neg hc1] at hp
    refine e_icmp_lt_f f166_2 hc1 ?_
    refine e_iload_n f166_5 rfl ?_
    refine e_iload_n f166_6 rfl ?_
    by_cases hc2 : (a2) < ((a0) : Int32)
    · rw [if_pos hc2] at hp
      refine e_icmp_gt_t f166_7 hc2 ?_
      refine e_iconst (v := 0) f166_14 (by decide) ?_
      have hp := Option.some.inj hp
      subst hp
      exact e_ireturn f166_15 (by decide)
    · rw [if_neg hc2] at hp
      refine e_icmp_gt_f f166_7 hc2 ?_
      refine e_iconst (v := 1) f166_10 (by decide) ?_
      refine e_goto f166_11 ?_
      have hp := Option.some.inj hp
      subst hp
      exact e_ireturn f166_15 (by decide)
theorem f1_0 : fetch 1 0 = some (.iload_n 1, 0, 0, 0) := rfl
theorem f1_1 : fetch 1 1 = some (.iconst 0, 0, 0, 0) := rfl
theorem f1_2 : fetch 1 2 = some (.aload_n 0, 0, 0, 0) := rfl
theorem f1_3 : fetch 1 3 = some (.getfield 34, 0, 0, 0) := rfl
theorem f1_6 : fetch 1 6 = some (.iconst 1, 0, 0, 0) := rfl
theorem f1_7 : fetch 1 7 = some (.isub, 0, 0, 0) := rfl
theorem f1_8 : fetch 1 8 = some (.invokestatic 38, 166, 3, 2) := rfl
theorem f1_11 : fetch 1 11 = some (.ireturn, 0, 0, 1) := rfl
set_option maxRecDepth 100000 in
set_option maxHeartbeats 4000000 in
theorem p1_ok (d : Nat) (h : HS) (w : WF h) (a0 : Int32) (r : Int32) (hp : p1 h a0 = some r) : ex (d + 1) 1 (ent 1 [.ref (50), .int (a0)] h) = some (some (.int (r)), h) := by
  rw [show ent 1 [.ref (50), .int (a0)] h = (0, [some (.ref (50)), some (.int (a0))], [], h) from by  rfl]
  refine ex_weak (ls := [some (.ref (50)), some (.int (a0))]) (le2_ok ⟨Or.inr rfl, Or.inr rfl, trivial⟩) ?_
  unfold p1 at hp
  refine e_iload_n f1_0 rfl ?_
  refine e_iconst (v := 0) f1_1 (by decide) ?_
  refine e_aload_n f1_2 rfl ?_
  refine e_getI f1_3 (WF.t w 50 (by decide)) (by decide) ?_
  refine e_iconst (v := 1) f1_6 (by decide) ?_
  refine e_isub f1_7 ?_
  obtain ⟨r1, hr2, hp⟩ := bind_some hp
  try dsimp only at hp
  refine e_callS (st := []) (as := [.int (a0), .int (0), .int ((hI (h) (50) 0) - (1))]) f1_8 (by decide) rfl rfl (Nat.le_of_ble_eq_true rfl) (Nat.le_of_ble_eq_true rfl) (p166_ok d (h) w (a0) (0) ((hI (h) (50) 0) - (1)) r1 hr2) ?_
  show ex _ 1 (11, [some (.ref (50)), some (.int (a0))], [.int (r1)], h) = _
  by_cases hg3 : (r1) = (0 : Int32) ∨ (r1) = (1 : Int32)
  rotate_left
  · rw [if_neg hg3] at hp; cases hp
  rw [if_pos hg3] at hp
  have hp := Option.some.inj hp
  subst hp
  exact e_ireturn f1_11 (Or.inr hg3)
theorem f2_0 : fetch 2 0 = some (.iload_n 1, 0, 0, 0) := rfl
theorem f2_1 : fetch 2 1 = some (.iconst 0, 0, 0, 0) := rfl
theorem f2_2 : fetch 2 2 = some (.aload_n 0, 0, 0, 0) := rfl
theorem f2_3 : fetch 2 3 = some (.getfield 42, 0, 1, 0) := rfl
theorem f2_6 : fetch 2 6 = some (.iconst 1, 0, 0, 0) := rfl
theorem f2_7 : fetch 2 7 = some (.isub, 0, 0, 0) := rfl
theorem f2_8 : fetch 2 8 = some (.invokestatic 38, 166, 3, 2) := rfl
theorem f2_11 : fetch 2 11 = some (.ireturn, 0, 0, 1) := rfl
set_option maxRecDepth 100000 in
set_option maxHeartbeats 4000000 in
theorem p2_ok (d : Nat) (h : HS) (w : WF h) (a0 : Int32) (r : Int32) (hp : p2 h a0 = some r) : ex (d + 1) 2 (ent 2 [.ref (50), .int (a0)] h) = some (some (.int (r)), h) := by
  rw [show ent 2 [.ref (50), .int (a0)] h = (0, [some (.ref (50)), some (.int (a0))], [], h) from by  rfl]
  refine ex_weak (ls := [some (.ref (50)), some (.int (a0))]) (le2_ok ⟨Or.inr rfl, Or.inr rfl, trivial⟩) ?_
  unfold p2 at hp
  refine e_iload_n f2_0 rfl ?_
  refine e_iconst (v := 0) f2_1 (by decide) ?_
  refine e_aload_n f2_2 rfl ?_
  refine e_getI f2_3 (WF.t w 50 (by decide)) (by decide) ?_
  refine e_iconst (v := 1) f2_6 (by decide) ?_
  refine e_isub f2_7 ?_
  obtain ⟨r1, hr2, hp⟩ := bind_some hp
  try dsimp only at hp
  refine e_callS (st := []) (as := [.int (a0), .int (0), .int ((hI (h) (50) 1) - (1))]) f2_8 (by decide) rfl rfl (Nat.le_of_ble_eq_true rfl) (Nat.le_of_ble_eq_true rfl) (p166_ok d (h) w (a0) (0) ((hI (h) (50) 1) - (1)) r1 hr2) ?_
  show ex _ 2 (11, [some (.ref (50)), some (.int (a0))], [.int (r1)], h) = _
  by_cases hg3 : (r1) = (0 : Int32) ∨ (r1) = (1 : Int32)
  rotate_left
  · rw [if_neg hg3] at hp; cases hp
  rw [if_pos hg3] at hp
  have hp := Option.some.inj hp
  subst hp
  exact e_ireturn f2_11 (Or.inr hg3)
theorem f3_0 : fetch 3 0 = some (.iload_n 1, 0, 0, 0) := rfl
theorem f3_1 : fetch 3 1 = some (.iconst 0, 0, 0, 0) := rfl
theorem f3_2 : fetch 3 2 = some (.aload_n 0, 0, 0, 0) := rfl
theorem f3_3 : fetch 3 3 = some (.getfield 45, 0, 2, 0) := rfl
theorem f3_6 : fetch 3 6 = some (.iconst 1, 0, 0, 0) := rfl
theorem f3_7 : fetch 3 7 = some (.isub, 0, 0, 0) := rfl
theorem f3_8 : fetch 3 8 = some (.invokestatic 38, 166, 3, 2) := rfl
theorem f3_11 : fetch 3 11 = some (.ireturn, 0, 0, 1) := rfl
set_option maxRecDepth 100000 in
set_option maxHeartbeats 4000000 in
theorem p3_ok (d : Nat) (h : HS) (w : WF h) (a0 : Int32) (r : Int32) (hp : p3 h a0 = some r) : ex (d + 1) 3 (ent 3 [.ref (50), .int (a0)] h) = some (some (.int (r)), h) := by
  rw [show ent 3 [.ref (50), .int (a0)] h = (0, [some (.ref (50)), some (.int (a0))], [], h) from by  rfl]
  refine ex_weak (ls := [some (.ref (50)), some (.int (a0))]) (le2_ok ⟨Or.inr rfl, Or.inr rfl, trivial⟩) ?_
  unfold p3 at hp
  refine e_iload_n f3_0 rfl ?_
  refine e_iconst (v := 0) f3_1 (by decide) ?_
  refine e_aload_n f3_2 rfl ?_
  refine e_getI f3_3 (WF.t w 50 (by decide)) (by decide) ?_
  refine e_iconst (v := 1) f3_6 (by decide) ?_
  refine e_isub f3_7 ?_
  obtain ⟨r1, hr2, hp⟩ := bind_some hp
  try dsimp only at hp
  refine e_callS (st := []) (as := [.int (a0), .int (0), .int ((hI (h) (50) 2) - (1))]) f3_8 (by decide) rfl rfl (Nat.le_of_ble_eq_true rfl) (Nat.le_of_ble_eq_true rfl) (p166_ok d (h) w (a0) (0) ((hI (h) (50) 2) - (1)) r1 hr2) ?_
  show ex _ 3 (11, [some (.ref (50)), some (.int (a0))], [.int (r1)], h) = _
  by_cases hg3 : (r1) = (0 : Int32) ∨ (r1) = (1 : Int32)
  rotate_left
  · rw [if_neg hg3] at hp; cases hp
  rw [if_pos hg3] at hp
  have hp := Option.some.inj hp
  subst hp
  exact e_ireturn f3_11 (Or.inr hg3)
theorem f4_0 : fetch 4 0 = some (.iload_n 1, 0, 0, 0) := rfl
theorem f4_1 : fetch 4 1 = some (.iconst 0, 0, 0, 0) := rfl
theorem f4_2 : fetch 4 2 = some (.aload_n 0, 0, 0, 0) := rfl
theorem f4_3 : fetch 4 3 = some (.getfield 48, 0, 3, 0) := rfl
theorem f4_6 : fetch 4 6 = some (.iconst 1, 0, 0, 0) := rfl
theorem f4_7 : fetch 4 7 = some (.isub, 0, 0, 0) := rfl
theorem f4_8 : fetch 4 8 = some (.invokestatic 38, 166, 3, 2) := rfl
theorem f4_11 : fetch 4 11 = some (.ireturn, 0, 0, 1) := rfl
set_option maxRecDepth 100000 in
set_option maxHeartbeats 4000000 in
theorem p4_ok (d : Nat) (h : HS) (w : WF h) (a0 : Int32) (r : Int32) (hp : p4 h a0 = some r) : ex (d + 1) 4 (ent 4 [.ref (50), .int (a0)] h) = some (some (.int (r)), h) := by
  rw [show ent 4 [.ref (50), .int (a0)] h = (0, [some (.ref (50)), some (.int (a0))], [], h) from by  rfl]
  refine ex_weak (ls := [some (.ref (50)), some (.int (a0))]) (le2_ok ⟨Or.inr rfl, Or.inr rfl, trivial⟩) ?_
  unfold p4 at hp
  refine e_iload_n f4_0 rfl ?_
  refine e_iconst (v := 0) f4_1 (by decide) ?_
  refine e_aload_n f4_2 rfl ?_
  refine e_getI f4_3 (WF.t w 50 (by decide)) (by decide) ?_
  refine e_iconst (v := 1) f4_6 (by decide) ?_
  refine e_isub f4_7 ?_
  obtain ⟨r1, hr2, hp⟩ := bind_some hp
  try dsimp only at hp
  refine e_callS (st := []) (as := [.int (a0), .int (0), .int ((hI (h) (50) 3) - (1))]) f4_8 (by decide) rfl rfl (Nat.le_of_ble_eq_true rfl) (Nat.le_of_ble_eq_true rfl) (p166_ok d (h) w (a0) (0) ((hI (h) (50) 3) - (1)) r1 hr2) ?_
  show ex _ 4 (11, [some (.ref (50)), some (.int (a0))], [.int (r1)], h) = _
  by_cases hg3 : (r1) = (0 : Int32) ∨ (r1) = (1 : Int32)
  rotate_left
  · rw [if_neg hg3] at hp; cases hp
  rw [if_pos hg3] at hp
  have hp := Option.some.inj hp
  subst hp
  exact e_ireturn f4_11 (Or.inr hg3)
theorem f5_0 : fetch 5 0 = some (.aload_n 0, 0, 0, 0) := rfl
theorem f5_1 : fetch 5 1 = some (.getfield 42, 0, 1, 0) := rfl
theorem f5_4 : fetch 5 4 = some (.bipush 40, 0, 0, 0) := rfl
theorem f5_6 : fetch 5 6 = some (.if_icmp .ge 13, 19, 0, 0) := rfl
theorem f5_9 : fetch 5 9 = some (.iload_n 1, 0, 0, 0) := rfl
theorem f5_10 : fetch 5 10 = some (.iconst 0, 0, 0, 0) := rfl
theorem f5_11 : fetch 5 11 = some (.bipush 9, 0, 0, 0) := rfl
theorem f5_13 : fetch 5 13 = some (.invokestatic 38, 166, 3, 2) := rfl
theorem f5_16 : fetch 5 16 = some (.ifCond .ne 5, 21, 0, 0) := rfl
theorem f5_19 : fetch 5 19 = some (.iconst (-1), 0, 0, 0) := rfl
theorem f5_20 : fetch 5 20 = some (.ireturn, 0, 0, 0) := rfl
theorem f5_21 : fetch 5 21 = some (.aload_n 0, 0, 0, 0) := rfl
theorem f5_22 : fetch 5 22 = some (.getfield 9, 0, 5, 2) := rfl
theorem f5_25 : fetch 5 25 = some (.aload_n 0, 0, 0, 0) := rfl
theorem f5_26 : fetch 5 26 = some (.getfield 42, 0, 1, 0) := rfl
theorem f5_29 : fetch 5 29 = some (.iload_n 1, 0, 0, 0) := rfl
theorem f5_30 : fetch 5 30 = some (.iastore, 0, 0, 0) := rfl
theorem f5_31 : fetch 5 31 = some (.aload_n 0, 0, 0, 0) := rfl
theorem f5_32 : fetch 5 32 = some (.dup, 0, 0, 0) := rfl
theorem f5_33 : fetch 5 33 = some (.getfield 42, 0, 1, 0) := rfl
theorem f5_36 : fetch 5 36 = some (.dup_x1, 0, 0, 0) := rfl
theorem f5_37 : fetch 5 37 = some (.iconst 1, 0, 0, 0) := rfl
theorem f5_38 : fetch 5 38 = some (.iadd, 0, 0, 0) := rfl
theorem f5_39 : fetch 5 39 = some (.putfield 42, 0, 1, 0) := rfl
theorem f5_42 : fetch 5 42 = some (.ireturn, 0, 0, 0) := rfl
set_option maxRecDepth 100000 in
set_option maxHeartbeats 4000000 in
theorem p5_ok (d : Nat) (h : HS) (w : WF h) (a0 : Int32) (r : Int32 × HS) (hp : p5 h a0 = some r) : ex (d + 1) 5 (ent 5 [.ref (50), .int (a0)] h) = some (some (.int (r.1)), r.2) := by
  rw [show ent 5 [.ref (50), .int (a0)] h = (0, [some (.ref (50)), some (.int (a0))], [], h) from by  rfl]
  refine ex_weak (ls := [some (.ref (50)), some (.int (a0))]) (le2_ok ⟨Or.inr rfl, Or.inr rfl, trivial⟩) ?_
  unfold p5 at hp
  refine e_aload_n f5_0 rfl ?_
  refine e_getI f5_1 (WF.t w 50 (by decide)) (by decide) ?_
  refine e_bipush (v := 40) f5_4 (by decide) ?_
  by_cases hc1 : (hI (h) (50) 1) < ((40) : Int32)
  · rw [if_pos hc1] at hp
    refine e_icmp_ge_f f5_6 hc1 ?_
    refine e_iload_n f5_9 rfl ?_
    refine e_iconst (v := 0) f5_10 (by decide) ?_
    refine e_bipush (v := 9) f5_11 (by decide) ?_
    obtain ⟨r2, hr3, hp⟩ := bind_some hp
    try dsimp only at hp
    refine e_callS (st := []) (as := [.int (a0), .int (0), .int (9)]) f5_13 (by decide) rfl rfl (Nat.le_of_ble_eq_true rfl) (Nat.le_of_ble_eq_true rfl) (p166_ok d (h) w (a0) (0) (9) r2 hr3) ?_
    show ex _ 5 (16, [some (.ref (50)), some (.int (a0))], [.int (r2)], h) = _
    by_cases hc4 : (r2) = (0 : Int32)
    · rw [if_pos hc4] at hp
      refine e_if_ne_f f5_16 hc4 ?_
      refine e_iconst (v := -1) f5_19 (by decide) ?_
      have hp := Option.some.inj hp
      subst hp
      exact e_ireturn f5_20 (Or.inl rfl)
    · rw [if_neg hc4] at hp
      refine e_if_ne_t f5_16 hc4 ?_
      refine e_aload_n f5_21 rfl ?_
      refine e_getR f5_22 (WF.t w 50 (by decide)) rfl (WF.r (q := 51) w 50 5 (by decide)) ?_
      refine e_aload_n f5_25 rfl ?_
      refine e_getI f5_26 (WF.t w 50 (by decide)) (by decide) ?_
      refine e_iload_n f5_29 rfl ?_
      by_cases hg5 : (hI (h) (50) 1) < (0 : Int32) ∨ 40 ≤ (hI (h) (50) 1).toNatClampNeg
      · rw [if_pos hg5] at hp; cases hp
      rw [if_neg hg5] at hp
      refine e_iastore f5_30 (WF.t w 51 (by decide)) (WF.n w 51 (by decide)) hg5 ?_
      refine e_aload_n f5_31 rfl ?_
      refine e_dup f5_32 rfl ?_
      refine e_getI f5_33 (WF.t w 50 (by decide)) (by decide) ?_
      refine e_dup_x1 f5_36 rfl rfl ?_
      refine e_iconst (v := 1) f5_37 (by decide) ?_
      refine e_iadd f5_38 ?_
      refine e_putI f5_39 (WF.t w 50 (by decide)) rfl ?_
      obtain ⟨h6, e7, hp⟩ := bind_some hp
      try dsimp only at hp
      have e7 := Option.some.inj e7
      have w8 : WF h6 := e7 ▸ w
      rw [e7]
      have hp := Option.some.inj hp
      subst hp
      exact e_ireturn f5_42 (Or.inl rfl)
  · rw [if_neg hc1] at hp
    refine e_icmp_ge_t f5_6 hc1 ?_
    refine e_iconst (v := -1) f5_19 (by decide) ?_
    have hp := Option.some.inj hp
    subst hp
    exact e_ireturn f5_20 (Or.inl rfl)
set_option maxRecDepth 100000 in
set_option maxHeartbeats 4000000 in
theorem p5_w (h : HS) (w : WF h) (a0 : Int32) (r : Int32 × HS) (hp : p5 h a0 = some r) : WF r.2 := by
  unfold p5 at hp
  by_cases hc1 : (hI (h) (50) 1) < ((40) : Int32)
  · rw [if_pos hc1] at hp
    obtain ⟨r2, hr3, hp⟩ := bind_some hp
    try dsimp only at hp
    by_cases hc4 : (r2) = (0 : Int32)
    · rw [if_pos hc4] at hp
      have hp := Option.some.inj hp
      subst hp
      exact (w)
    · rw [if_neg hc4] at hp
      by_cases hg5 : (hI (h) (50) 1) < (0 : Int32) ∨ 40 ≤ (hI (h) (50) 1).toNatClampNeg
      · rw [if_pos hg5] at hp; cases hp
      rw [if_neg hg5] at hp
      obtain ⟨h6, e7, hp⟩ := bind_some hp
      try dsimp only at hp
      have e7 := Option.some.inj e7
      have w8 : WF h6 := e7 ▸ w
      have hp := Option.some.inj hp
      subst hp
      exact (w8)
  · rw [if_neg hc1] at hp
    have hp := Option.some.inj hp
    subst hp
    exact (w)
theorem f6_0 : fetch 6 0 = some (.aload_n 0, 0, 0, 0) := rfl
theorem f6_1 : fetch 6 1 = some (.getfield 20, 0, 7, 2) := rfl
theorem f6_4 : fetch 6 4 = some (.aload_n 0, 0, 0, 0) := rfl
theorem f6_5 : fetch 6 5 = some (.getfield 45, 0, 2, 0) := rfl
theorem f6_8 : fetch 6 8 = some (.aload_n 1, 0, 0, 0) := rfl
theorem f6_9 : fetch 6 9 = some (.aastore, 0, 0, 0) := rfl
theorem f6_10 : fetch 6 10 = some (.aload_n 0, 0, 0, 0) := rfl
theorem f6_11 : fetch 6 11 = some (.dup, 0, 0, 0) := rfl
theorem f6_12 : fetch 6 12 = some (.getfield 45, 0, 2, 0) := rfl
theorem f6_15 : fetch 6 15 = some (.dup_x1, 0, 0, 0) := rfl
theorem f6_16 : fetch 6 16 = some (.iconst 1, 0, 0, 0) := rfl
theorem f6_17 : fetch 6 17 = some (.iadd, 0, 0, 0) := rfl
theorem f6_18 : fetch 6 18 = some (.putfield 45, 0, 2, 0) := rfl
theorem f6_21 : fetch 6 21 = some (.ireturn, 0, 0, 0) := rfl
set_option maxRecDepth 100000 in
set_option maxHeartbeats 4000000 in
theorem p6_ok (d : Nat) (h : HS) (w : WF h) (a0 : Option Nat) (r : Int32 × HS) (hp : p6 h a0 = some r) : ex (d + 0) 6 (ent 6 [.ref (50), va_rf (a0)] h) = some (some (.int (r.1)), r.2) := by
  rw [show ent 6 [.ref (50), va_rf (a0)] h = (0, [some (.ref (50)), some (va_rf (a0))], [], h) from by cases a0 <;> rfl]
  refine ex_weak (ls := [some (.ref (50)), some (va_rf (a0))]) (le2_ok ⟨Or.inr rfl, Or.inr rfl, trivial⟩) ?_
  unfold p6 at hp
  refine e_aload_n f6_0 rfl ?_
  refine e_getR f6_1 (WF.t w 50 (by decide)) rfl (WF.r (q := 53) w 50 7 (by decide)) ?_
  refine e_aload_n f6_4 rfl ?_
  refine e_getI f6_5 (WF.t w 50 (by decide)) (by decide) ?_
  refine e_qload_n f6_8 rfl ?_
  obtain ⟨o1, ho2, hp⟩ := bind_some hp
  try dsimp only at hp
  rw [ho2]
  by_cases hg3 : hT (h) (o1) = 5
  rotate_left
  · rw [if_neg hg3] at hp; cases hp
  rw [if_pos hg3] at hp
  by_cases hg4 : (hI (h) (50) 2) < (0 : Int32) ∨ 400 ≤ (hI (h) (50) 2).toNatClampNeg
  · rw [if_pos hg4] at hp; cases hp
  rw [if_neg hg4] at hp
  refine e_aastore f6_9 (WF.t w 53 (by decide)) (by decide) hg3 (WF.n w 53 (by decide)) hg4 ?_
  refine e_aload_n f6_10 rfl ?_
  refine e_dup f6_11 rfl ?_
  refine e_getI f6_12 (WF.t (WF.ra (j := (hI (h) (50) 2).toNatClampNeg) (v := some (o1)) w 53 (by decide)) 50 (by decide)) (by decide) ?_
  refine e_dup_x1 f6_15 rfl rfl ?_
  refine e_iconst (v := 1) f6_16 (by decide) ?_
  refine e_iadd f6_17 ?_
  refine e_putI f6_18 (WF.t (WF.ra (j := (hI (h) (50) 2).toNatClampNeg) (v := some (o1)) w 53 (by decide)) 50 (by decide)) rfl ?_
  obtain ⟨h5, e6, hp⟩ := bind_some hp
  try dsimp only at hp
  have e6 := Option.some.inj e6
  have w7 : WF h5 := e6 ▸ (WF.ra (j := (hI (h) (50) 2).toNatClampNeg) (v := some (o1)) w 53 (by decide))
  rw [e6]
  have hp := Option.some.inj hp
  subst hp
  exact e_ireturn f6_21 (Or.inl rfl)
set_option maxRecDepth 100000 in
set_option maxHeartbeats 4000000 in
theorem p6_w (h : HS) (w : WF h) (a0 : Option Nat) (r : Int32 × HS) (hp : p6 h a0 = some r) : WF r.2 := by
  unfold p6 at hp
  obtain ⟨o1, ho2, hp⟩ := bind_some hp
  try dsimp only at hp
  by_cases hg3 : hT (h) (o1) = 5
  rotate_left
  · rw [if_neg hg3] at hp; cases hp
  rw [if_pos hg3] at hp
  by_cases hg4 : (hI (h) (50) 2) < (0 : Int32) ∨ 400 ≤ (hI (h) (50) 2).toNatClampNeg
  · rw [if_pos hg4] at hp; cases hp
  rw [if_neg hg4] at hp
  obtain ⟨h5, e6, hp⟩ := bind_some hp
  try dsimp only at hp
  have e6 := Option.some.inj e6
  have w7 : WF h5 := e6 ▸ (WF.ra (j := (hI (h) (50) 2).toNatClampNeg) (v := some (o1)) w 53 (by decide))
  have hp := Option.some.inj hp
  subst hp
  exact (w7)
theorem f7_0 : fetch 7 0 = some (.aload_n 0, 0, 0, 0) := rfl
theorem f7_1 : fetch 7 1 = some (.getfield 24, 0, 8, 2) := rfl
theorem f7_4 : fetch 7 4 = some (.aload_n 0, 0, 0, 0) := rfl
theorem f7_5 : fetch 7 5 = some (.getfield 48, 0, 3, 0) := rfl
theorem f7_8 : fetch 7 8 = some (.aload_n 1, 0, 0, 0) := rfl
theorem f7_9 : fetch 7 9 = some (.aastore, 0, 0, 0) := rfl
theorem f7_10 : fetch 7 10 = some (.aload_n 0, 0, 0, 0) := rfl
theorem f7_11 : fetch 7 11 = some (.dup, 0, 0, 0) := rfl
theorem f7_12 : fetch 7 12 = some (.getfield 48, 0, 3, 0) := rfl
theorem f7_15 : fetch 7 15 = some (.dup_x1, 0, 0, 0) := rfl
theorem f7_16 : fetch 7 16 = some (.iconst 1, 0, 0, 0) := rfl
theorem f7_17 : fetch 7 17 = some (.iadd, 0, 0, 0) := rfl
theorem f7_18 : fetch 7 18 = some (.putfield 48, 0, 3, 0) := rfl
theorem f7_21 : fetch 7 21 = some (.ireturn, 0, 0, 0) := rfl
set_option maxRecDepth 100000 in
set_option maxHeartbeats 4000000 in
theorem p7_ok (d : Nat) (h : HS) (w : WF h) (a0 : Option Nat) (r : Int32 × HS) (hp : p7 h a0 = some r) : ex (d + 0) 7 (ent 7 [.ref (50), va_rf (a0)] h) = some (some (.int (r.1)), r.2) := by
  rw [show ent 7 [.ref (50), va_rf (a0)] h = (0, [some (.ref (50)), some (va_rf (a0))], [], h) from by cases a0 <;> rfl]
  refine ex_weak (ls := [some (.ref (50)), some (va_rf (a0))]) (le2_ok ⟨Or.inr rfl, Or.inr rfl, trivial⟩) ?_
  unfold p7 at hp
  refine e_aload_n f7_0 rfl ?_
  refine e_getR f7_1 (WF.t w 50 (by decide)) rfl (WF.r (q := 54) w 50 8 (by decide)) ?_
  refine e_aload_n f7_4 rfl ?_
  refine e_getI f7_5 (WF.t w 50 (by decide)) (by decide) ?_
  refine e_qload_n f7_8 rfl ?_
  obtain ⟨o1, ho2, hp⟩ := bind_some hp
  try dsimp only at hp
  rw [ho2]
  by_cases hg3 : hT (h) (o1) = 5
  rotate_left
  · rw [if_neg hg3] at hp; cases hp
  rw [if_pos hg3] at hp
  by_cases hg4 : (hI (h) (50) 3) < (0 : Int32) ∨ 200 ≤ (hI (h) (50) 3).toNatClampNeg
  · rw [if_pos hg4] at hp; cases hp
  rw [if_neg hg4] at hp
  refine e_aastore f7_9 (WF.t w 54 (by decide)) (by decide) hg3 (WF.n w 54 (by decide)) hg4 ?_
  refine e_aload_n f7_10 rfl ?_
  refine e_dup f7_11 rfl ?_
  refine e_getI f7_12 (WF.t (WF.ra (j := (hI (h) (50) 3).toNatClampNeg) (v := some (o1)) w 54 (by decide)) 50 (by decide)) (by decide) ?_
  refine e_dup_x1 f7_15 rfl rfl ?_
  refine e_iconst (v := 1) f7_16 (by decide) ?_
  refine e_iadd f7_17 ?_
  refine e_putI f7_18 (WF.t (WF.ra (j := (hI (h) (50) 3).toNatClampNeg) (v := some (o1)) w 54 (by decide)) 50 (by decide)) rfl ?_
  obtain ⟨h5, e6, hp⟩ := bind_some hp
  try dsimp only at hp
  have e6 := Option.some.inj e6
  have w7 : WF h5 := e6 ▸ (WF.ra (j := (hI (h) (50) 3).toNatClampNeg) (v := some (o1)) w 54 (by decide))
  rw [e6]
  have hp := Option.some.inj hp
  subst hp
  exact e_ireturn f7_21 (Or.inl rfl)
set_option maxRecDepth 100000 in
set_option maxHeartbeats 4000000 in
theorem p7_w (h : HS) (w : WF h) (a0 : Option Nat) (r : Int32 × HS) (hp : p7 h a0 = some r) : WF r.2 := by
  unfold p7 at hp
  obtain ⟨o1, ho2, hp⟩ := bind_some hp
  try dsimp only at hp
  by_cases hg3 : hT (h) (o1) = 5
  rotate_left
  · rw [if_neg hg3] at hp; cases hp
  rw [if_pos hg3] at hp
  by_cases hg4 : (hI (h) (50) 3) < (0 : Int32) ∨ 200 ≤ (hI (h) (50) 3).toNatClampNeg
  · rw [if_pos hg4] at hp; cases hp
  rw [if_neg hg4] at hp
  obtain ⟨h5, e6, hp⟩ := bind_some hp
  try dsimp only at hp
  have e6 := Option.some.inj e6
  have w7 : WF h5 := e6 ▸ (WF.ra (j := (hI (h) (50) 3).toNatClampNeg) (v := some (o1)) w 54 (by decide))
  have hp := Option.some.inj hp
  subst hp
  exact (w7)
theorem f8_0 : fetch 8 0 = some (.aload_n 0, 0, 0, 0) := rfl
theorem f8_1 : fetch 8 1 = some (.getfield 27, 0, 9, 2) := rfl
theorem f8_4 : fetch 8 4 = some (.aload_n 0, 0, 0, 0) := rfl
theorem f8_5 : fetch 8 5 = some (.getfield 51, 0, 4, 0) := rfl
theorem f8_8 : fetch 8 8 = some (.aload_n 1, 0, 0, 0) := rfl
theorem f8_9 : fetch 8 9 = some (.aastore, 0, 0, 0) := rfl
theorem f8_10 : fetch 8 10 = some (.aload_n 0, 0, 0, 0) := rfl
theorem f8_11 : fetch 8 11 = some (.dup, 0, 0, 0) := rfl
theorem f8_12 : fetch 8 12 = some (.getfield 51, 0, 4, 0) := rfl
theorem f8_15 : fetch 8 15 = some (.dup_x1, 0, 0, 0) := rfl
theorem f8_16 : fetch 8 16 = some (.iconst 1, 0, 0, 0) := rfl
theorem f8_17 : fetch 8 17 = some (.iadd, 0, 0, 0) := rfl
theorem f8_18 : fetch 8 18 = some (.putfield 51, 0, 4, 0) := rfl
theorem f8_21 : fetch 8 21 = some (.ireturn, 0, 0, 0) := rfl
set_option maxRecDepth 100000 in
set_option maxHeartbeats 4000000 in
theorem p8_ok (d : Nat) (h : HS) (w : WF h) (a0 : Option Nat) (r : Int32 × HS) (hp : p8 h a0 = some r) : ex (d + 0) 8 (ent 8 [.ref (50), va_rf (a0)] h) = some (some (.int (r.1)), r.2) := by
  rw [show ent 8 [.ref (50), va_rf (a0)] h = (0, [some (.ref (50)), some (va_rf (a0))], [], h) from by cases a0 <;> rfl]
  refine ex_weak (ls := [some (.ref (50)), some (va_rf (a0))]) (le2_ok ⟨Or.inr rfl, Or.inr rfl, trivial⟩) ?_
  unfold p8 at hp
  refine e_aload_n f8_0 rfl ?_
  refine e_getR f8_1 (WF.t w 50 (by decide)) rfl (WF.r (q := 55) w 50 9 (by decide)) ?_
  refine e_aload_n f8_4 rfl ?_
  refine e_getI f8_5 (WF.t w 50 (by decide)) (by decide) ?_
  refine e_qload_n f8_8 rfl ?_
  obtain ⟨o1, ho2, hp⟩ := bind_some hp
  try dsimp only at hp
  rw [ho2]
  by_cases hg3 : hT (h) (o1) = 5
  rotate_left
  · rw [if_neg hg3] at hp; cases hp
  rw [if_pos hg3] at hp
  by_cases hg4 : (hI (h) (50) 4) < (0 : Int32) ∨ 200 ≤ (hI (h) (50) 4).toNatClampNeg
  · rw [if_pos hg4] at hp; cases hp
  rw [if_neg hg4] at hp
  refine e_aastore f8_9 (WF.t w 55 (by decide)) (by decide) hg3 (WF.n w 55 (by decide)) hg4 ?_
  refine e_aload_n f8_10 rfl ?_
  refine e_dup f8_11 rfl ?_
  refine e_getI f8_12 (WF.t (WF.ra (j := (hI (h) (50) 4).toNatClampNeg) (v := some (o1)) w 55 (by decide)) 50 (by decide)) (by decide) ?_
  refine e_dup_x1 f8_15 rfl rfl ?_
  refine e_iconst (v := 1) f8_16 (by decide) ?_
  refine e_iadd f8_17 ?_
  refine e_putI f8_18 (WF.t (WF.ra (j := (hI (h) (50) 4).toNatClampNeg) (v := some (o1)) w 55 (by decide)) 50 (by decide)) rfl ?_
  obtain ⟨h5, e6, hp⟩ := bind_some hp
  try dsimp only at hp
  have e6 := Option.some.inj e6
  have w7 : WF h5 := e6 ▸ (WF.ra (j := (hI (h) (50) 4).toNatClampNeg) (v := some (o1)) w 55 (by decide))
  rw [e6]
  have hp := Option.some.inj hp
  subst hp
  exact e_ireturn f8_21 (Or.inl rfl)
set_option maxRecDepth 100000 in
set_option maxHeartbeats 4000000 in
theorem p8_w (h : HS) (w : WF h) (a0 : Option Nat) (r : Int32 × HS) (hp : p8 h a0 = some r) : WF r.2 := by
  unfold p8 at hp
  obtain ⟨o1, ho2, hp⟩ := bind_some hp
  try dsimp only at hp
  by_cases hg3 : hT (h) (o1) = 5
  rotate_left
  · rw [if_neg hg3] at hp; cases hp
  rw [if_pos hg3] at hp
  by_cases hg4 : (hI (h) (50) 4) < (0 : Int32) ∨ 200 ≤ (hI (h) (50) 4).toNatClampNeg
  · rw [if_pos hg4] at hp; cases hp
  rw [if_neg hg4] at hp
  obtain ⟨h5, e6, hp⟩ := bind_some hp
  try dsimp only at hp
  have e6 := Option.some.inj e6
  have w7 : WF h5 := e6 ▸ (WF.ra (j := (hI (h) (50) 4).toNatClampNeg) (v := some (o1)) w 55 (by decide))
  have hp := Option.some.inj hp
  subst hp
  exact (w7)
theorem f68_0 : fetch 68 0 = some (.aload_n 0, 0, 0, 0) := rfl
theorem f68_1 : fetch 68 1 = some (.getfield 9, 5, 2, 0) := rfl
theorem f68_4 : fetch 68 4 = some (.sipush 4000, 0, 0, 0) := rfl
theorem f68_7 : fetch 68 7 = some (.if_icmp .eq 5, 12, 0, 0) := rfl
theorem f68_10 : fetch 68 10 = some (.iconst 0, 0, 0, 0) := rfl
theorem f68_11 : fetch 68 11 = some (.ireturn, 0, 0, 1) := rfl
theorem f68_12 : fetch 68 12 = some (.aload_n 0, 0, 0, 0) := rfl
theorem f68_13 : fetch 68 13 = some (.iload_n 1, 0, 0, 0) := rfl
theorem f68_14 : fetch 68 14 = some (.putfield 9, 5, 2, 0) := rfl
theorem f68_17 : fetch 68 17 = some (.iconst 1, 0, 0, 0) := rfl
theorem f68_18 : fetch 68 18 = some (.ireturn, 0, 0, 1) := rfl
set_option maxRecDepth 100000 in
set_option maxHeartbeats 4000000 in
theorem p68_ok (d : Nat) (h : HS) (w : WF h) (o : Nat) (a0 : Int32) (ho : hT h o = 5) (r : Int32 × HS) (hp : p68 h o a0 = some r) : ex (d + 0) 68 (ent 68 [.ref (o), .int (a0)] h) = some (some (.int (r.1)), r.2) := by
  rw [show ent 68 [.ref (o), .int (a0)] h = (0, [some (.ref (o)), some (.int (a0))], [], h) from by  rfl]
  refine ex_weak (ls := [some (.ref (o)), some (.int (a0))]) (le2_ok ⟨Or.inr rfl, Or.inr rfl, trivial⟩) ?_
  unfold p68 at hp
  refine e_aload_n f68_0 rfl ?_
  refine e_getI f68_1 ho (by decide) ?_
  refine e_sipush (v := 4000) f68_4 (by decide) ?_
  by_cases hc1 : (hI (h) (o) 2) = ((4000) : Int32)
  · rw [if_pos hc1] at hp
    refine e_icmp_eq_t f68_7 hc1 ?_
    refine e_aload_n f68_12 rfl ?_
    refine e_iload_n f68_13 rfl ?_
    refine e_putI f68_14 ho rfl ?_
    refine e_iconst (v := 1) f68_17 (by decide) ?_
    have hp := Option.some.inj hp
    subst hp
    exact e_ireturn f68_18 (by decide)
  · rw [if_neg hc1] at hp
    refine e_icmp_eq_f f68_7 hc1 ?_
    refine e_iconst (v := 0) f68_10 (by decide) ?_
    have hp := Option.some.inj hp
    subst hp
    exact e_ireturn f68_11 (by decide)
set_option maxRecDepth 100000 in
set_option maxHeartbeats 4000000 in
theorem p68_w (h : HS) (w : WF h) (o : Nat) (a0 : Int32) (ho : hT h o = 5) (r : Int32 × HS) (hp : p68 h o a0 = some r) : WF r.2 := by
  unfold p68 at hp
  by_cases hc1 : (hI (h) (o) 2) = ((4000) : Int32)
  · rw [if_pos hc1] at hp
    have hp := Option.some.inj hp
    subst hp
    exact (w)
  · rw [if_neg hc1] at hp
    have hp := Option.some.inj hp
    subst hp
    exact (w)
theorem f70_0 : fetch 70 0 = some (.aload_n 0, 0, 0, 0) := rfl
theorem f70_1 : fetch 70 1 = some (.getfield 15, 5, 0, 2) := rfl
theorem f70_4 : fetch 70 4 = some (.ifnull 18, 22, 0, 0) := rfl
theorem f70_7 : fetch 70 7 = some (.aload_n 0, 0, 0, 0) := rfl
theorem f70_8 : fetch 70 8 = some (.getfield 15, 5, 0, 2) := rfl
theorem f70_11 : fetch 70 11 = some (.getfield 27, 9, 0, 0) := rfl
theorem f70_14 : fetch 70 14 = some (.iload_n 1, 0, 0, 0) := rfl
theorem f70_15 : fetch 70 15 = some (.if_icmp .ne 7, 22, 0, 0) := rfl
theorem f70_18 : fetch 70 18 = some (.iconst 1, 0, 0, 0) := rfl
theorem f70_19 : fetch 70 19 = some (.goto 4, 23, 0, 0) := rfl
theorem f70_22 : fetch 70 22 = some (.iconst 0, 0, 0, 0) := rfl
theorem f70_23 : fetch 70 23 = some (.ireturn, 0, 0, 1) := rfl
set_option maxRecDepth 100000 in
set_option maxHeartbeats 4000000 in
theorem p70_ok (d : Nat) (h : HS) (w : WF h) (o : Nat) (a0 : Int32) (ho : hT h o = 5) (r : Int32) (hp : p70 h o a0 = some r) : ex (d + 0) 70 (ent 70 [.ref (o), .int (a0)] h) = some (some (.int (r)), h) := by
  rw [show ent 70 [.ref (o), .int (a0)] h = (0, [some (.ref (o)), some (.int (a0))], [], h) from by  rfl]
  refine ex_weak (ls := [some (.ref (o)), some (.int (a0))]) (le2_ok ⟨Or.inr rfl, Or.inr rfl, trivial⟩) ?_
  unfold p70 at hp
  refine e_aload_n f70_0 rfl ?_
  refine e_getQ f70_1 ho rfl ?_
  by_cases hc1 : (hR (h) (o) 0) = none
  · rw [if_pos hc1] at hp
    rw [hc1]
    refine e_ifnull_t f70_4 ?_
    refine e_iconst (v := 0) f70_22 (by decide) ?_
    have hp := Option.some.inj hp
    subst hp
    exact e_ireturn f70_23 (by decide)
  · rw [if_neg hc1] at hp
    obtain ⟨o2, ho3, hp⟩ := bind_some hp
    try dsimp only at hp
    rw [ho3]
    refine e_ifnull_f f70_4 ?_
    refine e_aload_n f70_7 rfl ?_
    refine e_getQ f70_8 ho rfl ?_
    obtain ⟨o4, ho5, hp⟩ := bind_some hp
    try dsimp only at hp
    rw [ho5]
    by_cases hg6 : hT (h) (o4) = 9
    rotate_left
    · rw [if_neg hg6] at hp; cases hp
    rw [if_pos hg6] at hp
    refine e_getI f70_11 hg6 (by decide) ?_
    refine e_iload_n f70_14 rfl ?_
    by_cases hc7 : (hI (h) (o4) 0) = ((a0) : Int32)
    · rw [if_pos hc7] at hp
      refine e_icmp_ne_f f70_15 hc7 ?_
      refine e_iconst (v := 1) f70_18 (by decide) ?_
      refine e_goto f70_19 ?_
      have hp := Option.some.inj hp
      subst hp
      exact e_ireturn f70_23 (by decide)
    · rw [if_neg hc7] at hp
      refine e_icmp_ne_t f70_15 hc7 ?_
      refine e_iconst (v := 0) f70_22 (by decide) ?_
      have hp := Option.some.inj hp
      subst hp
      exact e_ireturn f70_23 (by decide)
theorem f9_0 : fetch 9 0 = some (.iconst 0, 0, 0, 0) := rfl
theorem f9_1 : fetch 9 1 = some (.istore_n 3, 0, 0, 0) := rfl
theorem f9_2 : fetch 9 2 = some (.iload_n 3, 0, 0, 0) := rfl
theorem f9_3 : fetch 9 3 = some (.aload_n 0, 0, 0, 0) := rfl
theorem f9_4 : fetch 9 4 = some (.getfield 48, 0, 3, 0) := rfl
theorem f9_7 : fetch 9 7 = some (.if_icmp .ge 33, 40, 0, 0) := rfl
theorem f9_10 : fetch 9 10 = some (.aload_n 0, 0, 0, 0) := rfl
theorem f9_11 : fetch 9 11 = some (.getfield 24, 0, 8, 2) := rfl
theorem f9_14 : fetch 9 14 = some (.iload_n 3, 0, 0, 0) := rfl
theorem f9_15 : fetch 9 15 = some (.aaload, 0, 0, 0) := rfl
theorem f9_16 : fetch 9 16 = some (.iload_n 1, 0, 0, 0) := rfl
theorem f9_17 : fetch 9 17 = some (.invokevirtual 54, 70, 1, 0) := rfl
theorem f9_20 : fetch 9 20 = some (.ifCond .eq 14, 34, 0, 0) := rfl
theorem f9_23 : fetch 9 23 = some (.aload_n 0, 0, 0, 0) := rfl
theorem f9_24 : fetch 9 24 = some (.getfield 24, 0, 8, 2) := rfl
theorem f9_27 : fetch 9 27 = some (.iload_n 3, 0, 0, 0) := rfl
theorem f9_28 : fetch 9 28 = some (.aaload, 0, 0, 0) := rfl
theorem f9_29 : fetch 9 29 = some (.iload_n 2, 0, 0, 0) := rfl
theorem f9_30 : fetch 9 30 = some (.invokevirtual 58, 68, 1, 0) := rfl
theorem f9_33 : fetch 9 33 = some (.pop, 0, 0, 0) := rfl
theorem f9_34 : fetch 9 34 = some (.iinc 3 1, 0, 0, 0) := rfl
theorem f9_37 : fetch 9 37 = some (.goto (-35), 2, 0, 0) := rfl
theorem f9_40 : fetch 9 40 = some (.iconst 0, 0, 0, 0) := rfl
theorem f9_41 : fetch 9 41 = some (.istore_n 3, 0, 0, 0) := rfl
theorem f9_42 : fetch 9 42 = some (.iload_n 3, 0, 0, 0) := rfl
theorem f9_43 : fetch 9 43 = some (.aload_n 0, 0, 0, 0) := rfl
theorem f9_44 : fetch 9 44 = some (.getfield 51, 0, 4, 0) := rfl
theorem f9_47 : fetch 9 47 = some (.if_icmp .ge 33, 80, 0, 0) := rfl
theorem f9_50 : fetch 9 50 = some (.aload_n 0, 0, 0, 0) := rfl
theorem f9_51 : fetch 9 51 = some (.getfield 27, 0, 9, 2) := rfl
theorem f9_54 : fetch 9 54 = some (.iload_n 3, 0, 0, 0) := rfl
theorem f9_55 : fetch 9 55 = some (.aaload, 0, 0, 0) := rfl
theorem f9_56 : fetch 9 56 = some (.iload_n 1, 0, 0, 0) := rfl
theorem f9_57 : fetch 9 57 = some (.invokevirtual 54, 70, 1, 0) := rfl
theorem f9_60 : fetch 9 60 = some (.ifCond .eq 14, 74, 0, 0) := rfl
theorem f9_63 : fetch 9 63 = some (.aload_n 0, 0, 0, 0) := rfl
theorem f9_64 : fetch 9 64 = some (.getfield 27, 0, 9, 2) := rfl
theorem f9_67 : fetch 9 67 = some (.iload_n 3, 0, 0, 0) := rfl
theorem f9_68 : fetch 9 68 = some (.aaload, 0, 0, 0) := rfl
theorem f9_69 : fetch 9 69 = some (.iload_n 2, 0, 0, 0) := rfl
theorem f9_70 : fetch 9 70 = some (.invokevirtual 58, 68, 1, 0) := rfl
theorem f9_73 : fetch 9 73 = some (.pop, 0, 0, 0) := rfl
theorem f9_74 : fetch 9 74 = some (.iinc 3 1, 0, 0, 0) := rfl
theorem f9_77 : fetch 9 77 = some (.goto (-35), 42, 0, 0) := rfl
theorem f9_80 : fetch 9 80 = some (.return_, 0, 0, 0) := rfl
set_option maxRecDepth 100000 in
set_option maxHeartbeats 4000000 in
theorem p9_j34_ok (d : Nat) (F : Nat) (a0 : Int32) (a1 : Int32) (K2 : HS → Int32 → Option (HS)) (hK2 : ∀ (h : HS) (w : WF h) (u3 : Int32) (r : HS), K2 h u3 = some r → ex (d + 1) 9 (2, [some (.ref (50)), some (.int (a0)), some (.int (a1)), some (.int (u3))], [], h) = some (none, r)) (h : HS) (w : WF h) (v3 : Int32) (r : HS) (hp : p9_j34 F a0 a1 K2 h v3 = some r) : ex (d + 1) 9 (34, [some (.ref (50)), some (.int (a0)), some (.int (a1)), some (.int (v3))], [], h) = some (none, r) := by
  unfold p9_j34 at hp
  refine e_iinc (ls2 := [some (.ref (50)), some (.int (a0)), some (.int (a1)), some (.int ((v3) + 1))]) f9_34 (by decide) rfl rfl ?_
  refine e_goto f9_37 ?_
  refine ex_weak (ls := [some (.ref (50)), some (.int (a0)), some (.int (a1)), some (.int ((v3) + 1))]) (le2_ok ⟨Or.inr rfl, Or.inr rfl, Or.inr rfl, Or.inr rfl, trivial⟩) ?_
  exact hK2 (h) (w) ((v3) + 1) _ hp
set_option maxRecDepth 100000 in
set_option maxHeartbeats 4000000 in
theorem p9_j34_w (F : Nat) (a0 : Int32) (a1 : Int32) (K2 : HS → Int32 → Option (HS)) (hK2 : ∀ (h : HS) (w : WF h) (u3 : Int32) (r : HS), K2 h u3 = some r → WF r) (h : HS) (w : WF h) (v3 : Int32) (r : HS) (hp : p9_j34 F a0 a1 K2 h v3 = some r) : WF r := by
  unfold p9_j34 at hp
  exact hK2 (h) (w) ((v3) + 1) _ hp
set_option maxRecDepth 100000 in
set_option maxHeartbeats 4000000 in
theorem p9_j74_ok (d : Nat) (F : Nat) (a0 : Int32) (a1 : Int32) (K42 : HS → Int32 → Option (HS)) (hK42 : ∀ (h : HS) (w : WF h) (u3 : Int32) (r : HS), K42 h u3 = some r → ex (d + 1) 9 (42, [some (.ref (50)), some (.int (a0)), some (.int (a1)), some (.int (u3))], [], h) = some (none, r)) (h : HS) (w : WF h) (v3 : Int32) (r : HS) (hp : p9_j74 F a0 a1 K42 h v3 = some r) : ex (d + 1) 9 (74, [some (.ref (50)), some (.int (a0)), some (.int (a1)), some (.int (v3))], [], h) = some (none, r) := by
  unfold p9_j74 at hp
  refine e_iinc (ls2 := [some (.ref (50)), some (.int (a0)), some (.int (a1)), some (.int ((v3) + 1))]) f9_74 (by decide) rfl rfl ?_
  refine e_goto f9_77 ?_
  refine ex_weak (ls := [some (.ref (50)), some (.int (a0)), some (.int (a1)), some (.int ((v3) + 1))]) (le2_ok ⟨Or.inr rfl, Or.inr rfl, Or.inr rfl, Or.inr rfl, trivial⟩) ?_
  exact hK42 (h) (w) ((v3) + 1) _ hp
set_option maxRecDepth 100000 in
set_option maxHeartbeats 4000000 in
theorem p9_j74_w (F : Nat) (a0 : Int32) (a1 : Int32) (K42 : HS → Int32 → Option (HS)) (hK42 : ∀ (h : HS) (w : WF h) (u3 : Int32) (r : HS), K42 h u3 = some r → WF r) (h : HS) (w : WF h) (v3 : Int32) (r : HS) (hp : p9_j74 F a0 a1 K42 h v3 = some r) : WF r := by
  unfold p9_j74 at hp
  exact hK42 (h) (w) ((v3) + 1) _ hp
set_option maxRecDepth 100000 in
set_option maxHeartbeats 4000000 in
theorem p9_L42_ok (d : Nat) (F : Nat) (a0 : Int32) (a1 : Int32) : ∀ (n : Nat) (h : HS) (w : WF h) (v3 : Int32) (r : HS), p9_L42 F a0 a1 n h v3 = some r → ex (d + 1) 9 (42, [some (.ref (50)), some (.int (a0)), some (.int (a1)), some (.int (v3))], [], h) = some (none, r) := by
  intro n
  induction n with
  | zero => intro h w v3 r hp; cases hp
  | succ n ih =>
    intro h w v3 r hp
    unfold p9_L42 at hp
    refine e_iload_n f9_42 rfl ?_
    refine e_aload_n f9_43 rfl ?_
    refine e_getI f9_44 (WF.t w 50 (by decide)) (by decide) ?_
    by_cases hc15 : (v3) < ((hI (h) (50) 4) : Int32)
    · rw [if_pos hc15] at hp
      refine e_icmp_ge_f f9_47 hc15 ?_
      refine e_aload_n f9_50 rfl ?_
      refine e_getR f9_51 (WF.t w 50 (by decide)) rfl (WF.r (q := 55) w 50 9 (by decide)) ?_
      refine e_iload_n f9_54 rfl ?_
      by_cases hg16 : (v3) < (0 : Int32) ∨ 200 ≤ (v3).toNatClampNeg
      · rw [if_pos hg16] at hp; cases hp
      rw [if_neg hg16] at hp
      refine e_aaload f9_55 (Or.inr (Or.inr (Or.inr (WF.t w 55 (by decide))))) (WF.n w 55 (by decide)) hg16 ?_
      refine e_iload_n f9_56 rfl ?_
      obtain ⟨o17, ho18, hp⟩ := bind_some hp
      try dsimp only at hp
      rw [ho18]
      by_cases hg19 : hT (h) (o17) = 5
      rotate_left
      · rw [if_neg hg19] at hp; cases hp
      rw [if_pos hg19] at hp
      obtain ⟨r20, hr21, hp⟩ := bind_some hp
      try dsimp only at hp
      refine e_callV (st := []) (o := o17) (as := [.int (a0)]) f9_57 (by decide) rfl rfl (Nat.le_of_ble_eq_true rfl) hg19 (Nat.le_of_ble_eq_true rfl) (p70_ok d (h) w (o17) (a0) hg19 r20 hr21) ?_
      show ex _ 9 (60, [some (.ref (50)), some (.int (a0)), some (.int (a1)), some (.int (v3))], [.int (r20)], h) = _
      by_cases hc22 : (r20) = (0 : Int32)
      · rw [if_pos hc22] at hp
        refine e_if_eq_t f9_60 hc22 ?_
        refine ex_weak (ls := [some (.ref (50)), some (.int (a0)), some (.int (a1)), some (.int (v3))]) (le2_ok ⟨Or.inr rfl, Or.inr rfl, Or.inr rfl, Or.inr rfl, trivial⟩) ?_
        exact p9_j74_ok d F a0 a1 ((p9_L42 F a0 a1 n)) (ih) (h) (w) (v3) _ hp
      · rw [if_neg hc22] at hp
        refine e_if_eq_f f9_60 hc22 ?_
        refine e_aload_n f9_63 rfl ?_
        refine e_getR f9_64 (WF.t w 50 (by decide)) rfl (WF.r (q := 55) w 50 9 (by decide)) ?_
        refine e_iload_n f9_67 rfl ?_
        by_cases hg23 : (v3) < (0 : Int32) ∨ 200 ≤ (v3).toNatClampNeg
        · rw [if_pos hg23] at hp; cases hp
        rw [if_neg hg23] at hp
        refine e_aaload f9_68 (Or.inr (Or.inr (Or.inr (WF.t w 55 (by decide))))) (WF.n w 55 (by decide)) hg23 ?_
        refine e_iload_n f9_69 rfl ?_
        obtain ⟨o24, ho25, hp⟩ := bind_some hp
        try dsimp only at hp
        rw [ho25]
        by_cases hg26 : hT (h) (o24) = 5
        rotate_left
        · rw [if_neg hg26] at hp; cases hp
        rw [if_pos hg26] at hp
        obtain ⟨r27, hr28, hp⟩ := bind_some hp
        try dsimp only at hp
        refine e_callV (st := []) (o := o24) (as := [.int (a1)]) f9_70 (by decide) rfl rfl (Nat.le_of_ble_eq_true rfl) hg26 (Nat.le_of_ble_eq_true rfl) (p68_ok d (h) w (o24) (a1) hg26 r27 hr28) ?_
        show ex _ 9 (73, [some (.ref (50)), some (.int (a0)), some (.int (a1)), some (.int (v3))], [.int (r27.1)], r27.2) = _
        refine e_pop f9_73 rfl ?_
        refine ex_weak (ls := [some (.ref (50)), some (.int (a0)), some (.int (a1)), some (.int (v3))]) (le2_ok ⟨Or.inr rfl, Or.inr rfl, Or.inr rfl, Or.inr rfl, trivial⟩) ?_
        exact p9_j74_ok d F a0 a1 ((p9_L42 F a0 a1 n)) (ih) (r27.2) ((p68_w (h) w (o24) (a1) hg26  r27 hr28)) (v3) _ hp
    · rw [if_neg hc15] at hp
      refine e_icmp_ge_t f9_47 hc15 ?_
      have hp := Option.some.inj hp
      subst hp
      exact e_return f9_80
set_option maxRecDepth 100000 in
set_option maxHeartbeats 4000000 in
theorem p9_L42_w (F : Nat) (a0 : Int32) (a1 : Int32) : ∀ (n : Nat) (h : HS) (w : WF h) (v3 : Int32) (r : HS), p9_L42 F a0 a1 n h v3 = some r → WF r := by
  intro n
  induction n with
  | zero => intro h w v3 r hp; cases hp
  | succ n ih =>
    intro h w v3 r hp
    unfold p9_L42 at hp
    by_cases hc15 : (v3) < ((hI (h) (50) 4) : Int32)
    · rw [if_pos hc15] at hp
      by_cases hg16 : (v3) < (0 : Int32) ∨ 200 ≤ (v3).toNatClampNeg
      · rw [if_pos hg16] at hp; cases hp
      rw [if_neg hg16] at hp
      obtain ⟨o17, ho18, hp⟩ := bind_some hp
      try dsimp only at hp
      by_cases hg19 : hT (h) (o17) = 5
      rotate_left
      · rw [if_neg hg19] at hp; cases hp
      rw [if_pos hg19] at hp
      obtain ⟨r20, hr21, hp⟩ := bind_some hp
      try dsimp only at hp
      by_cases hc22 : (r20) = (0 : Int32)
      · rw [if_pos hc22] at hp
        exact p9_j74_w F a0 a1 ((p9_L42 F a0 a1 n)) (ih) (h) (w) (v3) _ hp
      · rw [if_neg hc22] at hp
        by_cases hg23 : (v3) < (0 : Int32) ∨ 200 ≤ (v3).toNatClampNeg
        · rw [if_pos hg23] at hp; cases hp
        rw [if_neg hg23] at hp
        obtain ⟨o24, ho25, hp⟩ := bind_some hp
        try dsimp only at hp
        by_cases hg26 : hT (h) (o24) = 5
        rotate_left
        · rw [if_neg hg26] at hp; cases hp
        rw [if_pos hg26] at hp
        obtain ⟨r27, hr28, hp⟩ := bind_some hp
        try dsimp only at hp
        exact p9_j74_w F a0 a1 ((p9_L42 F a0 a1 n)) (ih) (r27.2) ((p68_w (h) w (o24) (a1) hg26  r27 hr28)) (v3) _ hp
    · rw [if_neg hc15] at hp
      have hp := Option.some.inj hp
      subst hp
      exact (w)
set_option maxRecDepth 100000 in
set_option maxHeartbeats 4000000 in
theorem p9_L2_ok (d : Nat) (F : Nat) (a0 : Int32) (a1 : Int32) : ∀ (n : Nat) (h : HS) (w : WF h) (v3 : Int32) (r : HS), p9_L2 F a0 a1 n h v3 = some r → ex (d + 1) 9 (2, [some (.ref (50)), some (.int (a0)), some (.int (a1)), some (.int (v3))], [], h) = some (none, r) := by
  intro n
  induction n with
  | zero => intro h w v3 r hp; cases hp
  | succ n ih =>
    intro h w v3 r hp
    unfold p9_L2 at hp
    refine e_iload_n f9_2 rfl ?_
    refine e_aload_n f9_3 rfl ?_
    refine e_getI f9_4 (WF.t w 50 (by decide)) (by decide) ?_
    by_cases hc1 : (v3) < ((hI (h) (50) 3) : Int32)
    · rw [if_pos hc1] at hp
      refine e_icmp_ge_f f9_7 hc1 ?_
      refine e_aload_n f9_10 rfl ?_
      refine e_getR f9_11 (WF.t w 50 (by decide)) rfl (WF.r (q := 54) w 50 8 (by decide)) ?_
      refine e_iload_n f9_14 rfl ?_
      by_cases hg2 : (v3) < (0 : Int32) ∨ 200 ≤ (v3).toNatClampNeg
      · rw [if_pos hg2] at hp; cases hp
      rw [if_neg hg2] at hp
      refine e_aaload f9_15 (Or.inr (Or.inr (Or.inr (WF.t w 54 (by decide))))) (WF.n w 54 (by decide)) hg2 ?_
      refine e_iload_n f9_16 rfl ?_
      obtain ⟨o3, ho4, hp⟩ := bind_some hp
      try dsimp only at hp
      rw [ho4]
      by_cases hg5 : hT (h) (o3) = 5
      rotate_left
      · rw [if_neg hg5] at hp; cases hp
      rw [if_pos hg5] at hp
      obtain ⟨r6, hr7, hp⟩ := bind_some hp
      try dsimp only at hp
      refine e_callV (st := []) (o := o3) (as := [.int (a0)]) f9_17 (by decide) rfl rfl (Nat.le_of_ble_eq_true rfl) hg5 (Nat.le_of_ble_eq_true rfl) (p70_ok d (h) w (o3) (a0) hg5 r6 hr7) ?_
      show ex _ 9 (20, [some (.ref (50)), some (.int (a0)), some (.int (a1)), some (.int (v3))], [.int (r6)], h) = _
      by_cases hc8 : (r6) = (0 : Int32)
      · rw [if_pos hc8] at hp
        refine e_if_eq_t f9_20 hc8 ?_
        refine ex_weak (ls := [some (.ref (50)), some (.int (a0)), some (.int (a1)), some (.int (v3))]) (le2_ok ⟨Or.inr rfl, Or.inr rfl, Or.inr rfl, Or.inr rfl, trivial⟩) ?_
        exact p9_j34_ok d F a0 a1 ((p9_L2 F a0 a1 n)) (ih) (h) (w) (v3) _ hp
      · rw [if_neg hc8] at hp
        refine e_if_eq_f f9_20 hc8 ?_
        refine e_aload_n f9_23 rfl ?_
        refine e_getR f9_24 (WF.t w 50 (by decide)) rfl (WF.r (q := 54) w 50 8 (by decide)) ?_
        refine e_iload_n f9_27 rfl ?_
        by_cases hg9 : (v3) < (0 : Int32) ∨ 200 ≤ (v3).toNatClampNeg
        · rw [if_pos hg9] at hp; cases hp
        rw [if_neg hg9] at hp
        refine e_aaload f9_28 (Or.inr (Or.inr (Or.inr (WF.t w 54 (by decide))))) (WF.n w 54 (by decide)) hg9 ?_
        refine e_iload_n f9_29 rfl ?_
        obtain ⟨o10, ho11, hp⟩ := bind_some hp
        try dsimp only at hp
        rw [ho11]
        by_cases hg12 : hT (h) (o10) = 5
        rotate_left
        · rw [if_neg hg12] at hp; cases hp
        rw [if_pos hg12] at hp
        obtain ⟨r13, hr14, hp⟩ := bind_some hp
        try dsimp only at hp
        refine e_callV (st := []) (o := o10) (as := [.int (a1)]) f9_30 (by decide) rfl rfl (Nat.le_of_ble_eq_true rfl) hg12 (Nat.le_of_ble_eq_true rfl) (p68_ok d (h) w (o10) (a1) hg12 r13 hr14) ?_
        show ex _ 9 (33, [some (.ref (50)), some (.int (a0)), some (.int (a1)), some (.int (v3))], [.int (r13.1)], r13.2) = _
        refine e_pop f9_33 rfl ?_
        refine ex_weak (ls := [some (.ref (50)), some (.int (a0)), some (.int (a1)), some (.int (v3))]) (le2_ok ⟨Or.inr rfl, Or.inr rfl, Or.inr rfl, Or.inr rfl, trivial⟩) ?_
        exact p9_j34_ok d F a0 a1 ((p9_L2 F a0 a1 n)) (ih) (r13.2) ((p68_w (h) w (o10) (a1) hg12  r13 hr14)) (v3) _ hp
    · rw [if_neg hc1] at hp
      refine e_icmp_ge_t f9_7 hc1 ?_
      refine e_iconst (v := 0) f9_40 (by decide) ?_
      refine e_istore_n (ls2 := [some (.ref (50)), some (.int (a0)), some (.int (a1)), some (.int (0))]) f9_41 (Nat.le_of_ble_eq_true rfl) rfl ?_
      refine ex_weak (ls := [some (.ref (50)), some (.int (a0)), some (.int (a1)), some (.int (0))]) (le2_ok ⟨Or.inr rfl, Or.inr rfl, Or.inr rfl, Or.inr rfl, trivial⟩) ?_
      exact p9_L42_ok d F a0 a1 F (h) (w) (0) _ hp
set_option maxRecDepth 100000 in
set_option maxHeartbeats 4000000 in
theorem p9_L2_w (F : Nat) (a0 : Int32) (a1 : Int32) : ∀ (n : Nat) (h : HS) (w : WF h) (v3 : Int32) (r : HS), p9_L2 F a0 a1 n h v3 = some r → WF r := by
  intro n
  induction n with
  | zero => intro h w v3 r hp; cases hp
  | succ n ih =>
    intro h w v3 r hp
    unfold p9_L2 at hp
    by_cases hc1 : (v3) < ((hI (h) (50) 3) : Int32)
    · rw [if_pos hc1] at hp
      by_cases hg2 : (v3) < (0 : Int32) ∨ 200 ≤ (v3).toNatClampNeg
      · rw [if_pos hg2] at hp; cases hp
      rw [if_neg hg2] at hp
      obtain ⟨o3, ho4, hp⟩ := bind_some hp
      try dsimp only at hp
      by_cases hg5 : hT (h) (o3) = 5
      rotate_left
      · rw [if_neg hg5] at hp; cases hp
      rw [if_pos hg5] at hp
      obtain ⟨r6, hr7, hp⟩ := bind_some hp
      try dsimp only at hp
      by_cases hc8 : (r6) = (0 : Int32)
      · rw [if_pos hc8] at hp
        exact p9_j34_w F a0 a1 ((p9_L2 F a0 a1 n)) (ih) (h) (w) (v3) _ hp
      · rw [if_neg hc8] at hp
        by_cases hg9 : (v3) < (0 : Int32) ∨ 200 ≤ (v3).toNatClampNeg
        · rw [if_pos hg9] at hp; cases hp
        rw [if_neg hg9] at hp
        obtain ⟨o10, ho11, hp⟩ := bind_some hp
        try dsimp only at hp
        by_cases hg12 : hT (h) (o10) = 5
        rotate_left
        · rw [if_neg hg12] at hp; cases hp
        rw [if_pos hg12] at hp
        obtain ⟨r13, hr14, hp⟩ := bind_some hp
        try dsimp only at hp
        exact p9_j34_w F a0 a1 ((p9_L2 F a0 a1 n)) (ih) (r13.2) ((p68_w (h) w (o10) (a1) hg12  r13 hr14)) (v3) _ hp
    · rw [if_neg hc1] at hp
      exact p9_L42_w F a0 a1 F (h) (w) (0) _ hp
set_option maxRecDepth 100000 in
set_option maxHeartbeats 4000000 in
theorem p9_ok (d : Nat) (F : Nat) (h : HS) (w : WF h) (a0 : Int32) (a1 : Int32) (r : HS) (hp : p9 F h a0 a1 = some r) : ex (d + 1) 9 (ent 9 [.ref (50), .int (a0), .int (a1)] h) = some (none, r) := by
  rw [show ent 9 [.ref (50), .int (a0), .int (a1)] h = (0, [some (.ref (50)), some (.int (a0)), some (.int (a1)), none], [], h) from by  rfl]
  refine ex_weak (ls := [some (.ref (50)), some (.int (a0)), some (.int (a1)), none]) (le2_ok ⟨Or.inr rfl, Or.inr rfl, Or.inr rfl, Or.inr rfl, trivial⟩) ?_
  unfold p9 at hp
  refine e_iconst (v := 0) f9_0 (by decide) ?_
  refine e_istore_n (ls2 := [some (.ref (50)), some (.int (a0)), some (.int (a1)), some (.int (0))]) f9_1 (Nat.le_of_ble_eq_true rfl) rfl ?_
  refine ex_weak (ls := [some (.ref (50)), some (.int (a0)), some (.int (a1)), some (.int (0))]) (le2_ok ⟨Or.inr rfl, Or.inr rfl, Or.inr rfl, Or.inr rfl, trivial⟩) ?_
  exact p9_L2_ok d F a0 a1 F (h) (w) (0) _ hp
set_option maxRecDepth 100000 in
set_option maxHeartbeats 4000000 in
theorem p9_w (F : Nat) (h : HS) (w : WF h) (a0 : Int32) (a1 : Int32) (r : HS) (hp : p9 F h a0 a1 = some r) : WF r := by
  unfold p9 at hp
  exact p9_L2_w F a0 a1 F (h) (w) (0) _ hp
theorem f10_0 : fetch 10 0 = some (.lconst 1, 0, 0, 0) := rfl
theorem f10_1 : fetch 10 1 = some (.aload_n 0, 0, 0, 0) := rfl
theorem f10_2 : fetch 10 2 = some (.getfield 34, 0, 0, 0) := rfl
theorem f10_5 : fetch 10 5 = some (.lshl, 0, 0, 0) := rfl
theorem f10_6 : fetch 10 6 = some (.lconst 1, 0, 0, 0) := rfl
theorem f10_7 : fetch 10 7 = some (.lsub, 0, 0, 0) := rfl
theorem f10_8 : fetch 10 8 = some (.lreturn, 0, 0, 0) := rfl
set_option maxRecDepth 100000 in
set_option maxHeartbeats 4000000 in
theorem p10_ok (d : Nat) (h : HS) (w : WF h) (r : Int64) (hp : p10 h = some r) : ex (d + 0) 10 (ent 10 [.ref (50)] h) = some (some (.long (r)), h) := by
  rw [show ent 10 [.ref (50)] h = (0, [some (.ref (50))], [], h) from by  rfl]
  refine ex_weak (ls := [some (.ref (50))]) (le2_ok ⟨Or.inr rfl, trivial⟩) ?_
  unfold p10 at hp
  refine e_lconst (v := 1) f10_0 (by decide) ?_
  refine e_aload_n f10_1 rfl ?_
  refine e_getI f10_2 (WF.t w 50 (by decide)) (by decide) ?_
  refine e_lshl f10_5 ?_
  refine e_lconst (v := 1) f10_6 (by decide) ?_
  refine e_lsub f10_7 ?_
  have hp := Option.some.inj hp
  subst hp
  exact e_lreturn f10_8
theorem f69_0 : fetch 69 0 = some (.aload_n 0, 0, 0, 0) := rfl
theorem f69_1 : fetch 69 1 = some (.getfield 19, 5, 1, 0) := rfl
theorem f69_4 : fetch 69 4 = some (.iload_n 1, 0, 0, 0) := rfl
theorem f69_5 : fetch 69 5 = some (.if_icmp .gt 33, 38, 0, 0) := rfl
theorem f69_8 : fetch 69 8 = some (.iload_n 1, 0, 0, 0) := rfl
theorem f69_9 : fetch 69 9 = some (.aload_n 0, 0, 0, 0) := rfl
theorem f69_10 : fetch 69 10 = some (.getfield 9, 5, 2, 0) := rfl
theorem f69_13 : fetch 69 13 = some (.if_icmp .ge 25, 38, 0, 0) := rfl
theorem f69_16 : fetch 69 16 = some (.aload_n 0, 0, 0, 0) := rfl
theorem f69_17 : fetch 69 17 = some (.getfield 15, 5, 0, 2) := rfl
theorem f69_20 : fetch 69 20 = some (.ifnull 14, 34, 0, 0) := rfl
theorem f69_23 : fetch 69 23 = some (.aload_n 0, 0, 0, 0) := rfl
theorem f69_24 : fetch 69 24 = some (.getfield 15, 5, 0, 2) := rfl
theorem f69_27 : fetch 69 27 = some (.getfield 22, 9, 2, 0) := rfl
theorem f69_30 : fetch 69 30 = some (.iload_n 1, 0, 0, 0) := rfl
theorem f69_31 : fetch 69 31 = some (.if_icmp .gt 7, 38, 0, 0) := rfl
theorem f69_34 : fetch 69 34 = some (.iconst 1, 0, 0, 0) := rfl
theorem f69_35 : fetch 69 35 = some (.goto 4, 39, 0, 0) := rfl
theorem f69_38 : fetch 69 38 = some (.iconst 0, 0, 0, 0) := rfl
theorem f69_39 : fetch 69 39 = some (.ireturn, 0, 0, 1) := rfl
set_option maxRecDepth 100000 in
set_option maxHeartbeats 4000000 in
theorem p69_ok (d : Nat) (h : HS) (w : WF h) (o : Nat) (a0 : Int32) (ho : hT h o = 5) (r : Int32) (hp : p69 h o a0 = some r) : ex (d + 0) 69 (ent 69 [.ref (o), .int (a0)] h) = some (some (.int (r)), h) := by
  rw [show ent 69 [.ref (o), .int (a0)] h = (0, [some (.ref (o)), some (.int (a0))], [], h) from by  rfl]
  refine ex_weak (ls := [some (.ref (o)), some (.int (a0))]) (le2_ok ⟨Or.inr rfl, Or.inr rfl, trivial⟩) ?_
  unfold p69 at hp
  refine e_aload_n f69_0 rfl ?_
  refine e_getI f69_1 ho (by decide) ?_
  refine e_iload_n f69_4 rfl ?_
  by_cases hc1 : (a0) < ((hI (h) (o) 1) : Int32)
  · rw [if_pos hc1] at hp
    refine e_icmp_gt_t f69_5 hc1 ?_
    refine e_iconst (v := 0) f69_38 (by decide) ?_
    have hp := Option.some.inj hp
    subst hp
    exact e_ireturn f69_39 (by decide)
  · rw [if_neg hc1] at hp
    refine e_icmp_gt_f f69_5 hc1 ?_
    refine e_iload_n f69_8 rfl ?_
    refine e_aload_n f69_9 rfl ?_
    refine e_getI f69_10 ho (by decide) ?_
    by_cases hc2 : (a0) < ((hI (h) (o) 2) : Int32)
    · rw [if_pos hc2] at hp
      refine e_icmp_ge_f f69_13 hc2 ?_
      refine e_aload_n f69_16 rfl ?_
      refine e_getQ f69_17 ho rfl ?_
      by_cases hc3 : (hR (h) (o) 0) = none
      · rw [if_pos hc3] at hp
        rw [hc3]
        refine e_ifnull_t f69_20 ?_
        refine e_iconst (v := 1) f69_34 (by decide) ?_
        refine e_goto f69_35 ?_
        have hp := Option.some.inj hp
        subst hp
        exact e_ireturn f69_39 (by decide)
      · rw [if_neg hc3] at hp
        obtain ⟨o4, ho5, hp⟩ := bind_some hp
        try dsimp only at hp
        rw [ho5]
        refine e_ifnull_f f69_20 ?_
        refine e_aload_n f69_23 rfl ?_
        refine e_getQ f69_24 ho rfl ?_
        obtain ⟨o6, ho7, hp⟩ := bind_some hp
        try dsimp only at hp
        rw [ho7]
        by_cases hg8 : hT (h) (o6) = 9
        rotate_left
        · rw [if_neg hg8] at hp; cases hp
        rw [if_pos hg8] at hp
        refine e_getI f69_27 hg8 (by decide) ?_
        refine e_iload_n f69_30 rfl ?_
        by_cases hc9 : (a0) < ((hI (h) (o6) 2) : Int32)
        · rw [if_pos hc9] at hp
          refine e_icmp_gt_t f69_31 hc9 ?_
          refine e_iconst (v := 0) f69_38 (by decide) ?_
          have hp := Option.some.inj hp
          subst hp
          exact e_ireturn f69_39 (by decide)
        · rw [if_neg hc9] at hp
          refine e_icmp_gt_f f69_31 hc9 ?_
          refine e_iconst (v := 1) f69_34 (by decide) ?_
          refine e_goto f69_35 ?_
          have hp := Option.some.inj hp
          subst hp
          exact e_ireturn f69_39 (by decide)
    · rw [if_neg hc2] at hp
      refine e_icmp_ge_t f69_13 hc2 ?_
      refine e_iconst (v := 0) f69_38 (by decide) ?_
      have hp := Option.some.inj hp
      subst hp
      exact e_ireturn f69_39 (by decide)
theorem f11_0 : fetch 11 0 = some (.lconst 0, 0, 0, 0) := rfl
theorem f11_1 : fetch 11 1 = some (.lstore_n 3, 0, 0, 0) := rfl
theorem f11_2 : fetch 11 2 = some (.lconst 0, 0, 0, 0) := rfl
theorem f11_3 : fetch 11 3 = some (.lstore 5, 0, 0, 0) := rfl
theorem f11_5 : fetch 11 5 = some (.iconst 0, 0, 0, 0) := rfl
theorem f11_6 : fetch 11 6 = some (.istore 7, 0, 0, 0) := rfl
theorem f11_8 : fetch 11 8 = some (.iload 7, 0, 0, 0) := rfl
theorem f11_10 : fetch 11 10 = some (.aload_n 0, 0, 0, 0) := rfl
theorem f11_11 : fetch 11 11 = some (.getfield 45, 0, 2, 0) := rfl
theorem f11_14 : fetch 11 14 = some (.if_icmp .ge 84, 98, 0, 0) := rfl
theorem f11_17 : fetch 11 17 = some (.aload_n 0, 0, 0, 0) := rfl
theorem f11_18 : fetch 11 18 = some (.getfield 20, 0, 7, 2) := rfl
theorem f11_21 : fetch 11 21 = some (.iload 7, 0, 0, 0) := rfl
theorem f11_23 : fetch 11 23 = some (.aaload, 0, 0, 0) := rfl
theorem f11_24 : fetch 11 24 = some (.astore 8, 0, 0, 0) := rfl
theorem f11_26 : fetch 11 26 = some (.aload 8, 0, 0, 0) := rfl
theorem f11_28 : fetch 11 28 = some (.getfield 61, 5, 8, 0) := rfl
theorem f11_31 : fetch 11 31 = some (.aload_n 1, 0, 0, 0) := rfl
theorem f11_32 : fetch 11 32 = some (.getfield 61, 5, 8, 0) := rfl
theorem f11_35 : fetch 11 35 = some (.if_icmp .gt 57, 92, 0, 0) := rfl
theorem f11_38 : fetch 11 38 = some (.aload_n 1, 0, 0, 0) := rfl
theorem f11_39 : fetch 11 39 = some (.getfield 61, 5, 8, 0) := rfl
theorem f11_42 : fetch 11 42 = some (.aload 8, 0, 0, 0) := rfl
theorem f11_44 : fetch 11 44 = some (.getfield 64, 5, 9, 0) := rfl
theorem f11_47 : fetch 11 47 = some (.if_icmp .gt 45, 92, 0, 0) := rfl
theorem f11_50 : fetch 11 50 = some (.aload 8, 0, 0, 0) := rfl
theorem f11_52 : fetch 11 52 = some (.iload_n 2, 0, 0, 0) := rfl
theorem f11_53 : fetch 11 53 = some (.invokevirtual 67, 69, 1, 0) := rfl
theorem f11_56 : fetch 11 56 = some (.ifCond .eq 36, 92, 0, 0) := rfl
theorem f11_59 : fetch 11 59 = some (.lconst 1, 0, 0, 0) := rfl
theorem f11_60 : fetch 11 60 = some (.aload 8, 0, 0, 0) := rfl
theorem f11_62 : fetch 11 62 = some (.getfield 70, 5, 4, 0) := rfl
theorem f11_65 : fetch 11 65 = some (.lshl, 0, 0, 0) := rfl
theorem f11_66 : fetch 11 66 = some (.lstore 9, 0, 0, 0) := rfl
theorem f11_68 : fetch 11 68 = some (.lload_n 3, 0, 0, 0) := rfl
theorem f11_69 : fetch 11 69 = some (.lload 9, 0, 0, 0) := rfl
theorem f11_71 : fetch 11 71 = some (.lor, 0, 0, 0) := rfl
theorem f11_72 : fetch 11 72 = some (.lstore_n 3, 0, 0, 0) := rfl
theorem f11_73 : fetch 11 73 = some (.aload 8, 0, 0, 0) := rfl
theorem f11_75 : fetch 11 75 = some (.getfield 73, 5, 6, 0) := rfl
theorem f11_78 : fetch 11 78 = some (.aload_n 1, 0, 0, 0) := rfl
theorem f11_79 : fetch 11 79 = some (.getfield 73, 5, 6, 0) := rfl
theorem f11_82 : fetch 11 82 = some (.if_icmp .ne 10, 92, 0, 0) := rfl
theorem f11_85 : fetch 11 85 = some (.lload 5, 0, 0, 0) := rfl
theorem f11_87 : fetch 11 87 = some (.lload 9, 0, 0, 0) := rfl
theorem f11_89 : fetch 11 89 = some (.lor, 0, 0, 0) := rfl
theorem f11_90 : fetch 11 90 = some (.lstore 5, 0, 0, 0) := rfl
theorem f11_92 : fetch 11 92 = some (.iinc 7 1, 0, 0, 0) := rfl
theorem f11_95 : fetch 11 95 = some (.goto (-87), 8, 0, 0) := rfl
theorem f11_98 : fetch 11 98 = some (.lload_n 3, 0, 0, 0) := rfl
theorem f11_99 : fetch 11 99 = some (.lload 5, 0, 0, 0) := rfl
theorem f11_101 : fetch 11 101 = some (.ldc2_w 76, 0, 0, -1) := rfl
theorem f11_104 : fetch 11 104 = some (.lxor, 0, 0, 0) := rfl
theorem f11_105 : fetch 11 105 = some (.land, 0, 0, 0) := rfl
theorem f11_106 : fetch 11 106 = some (.lconst 1, 0, 0, 0) := rfl
theorem f11_107 : fetch 11 107 = some (.aload_n 1, 0, 0, 0) := rfl
theorem f11_108 : fetch 11 108 = some (.getfield 70, 5, 4, 0) := rfl
theorem f11_111 : fetch 11 111 = some (.lshl, 0, 0, 0) := rfl
theorem f11_112 : fetch 11 112 = some (.lor, 0, 0, 0) := rfl
theorem f11_113 : fetch 11 113 = some (.lreturn, 0, 0, 0) := rfl
set_option maxRecDepth 100000 in
set_option maxHeartbeats 4000000 in
theorem p11_j92_ok (d : Nat) (F : Nat) (a0 : Option Nat) (a1 : Int32) (K8 : Int64 → Int64 → Int32 → Option (Int64)) (h : HS) (w : WF h) (hK8 : ∀ (u3 : Int64) (u5 : Int64) (u7 : Int32) (r : Int64), K8 u3 u5 u7 = some r → ex (d + 1) 11 (8, [some (.ref (50)), some (va_rf (a0)), some (.int (a1)), some (.long (u3)), none, some (.long (u5)), none, some (.int (u7)), none, none, none], [], h) = some (some (.long (r)), h)) (v3 : Int64) (v5 : Int64) (v7 : Int32) (r : Int64) (hp : p11_j92 F a0 a1 K8 h v3 v5 v7 = some r) : ex (d + 1) 11 (92, [some (.ref (50)), some (va_rf (a0)), some (.int (a1)), some (.long (v3)), none, some (.long (v5)), none, some (.int (v7)), none, none, none], [], h) = some (some (.long (r)), h) := by
  unfold p11_j92 at hp
  refine e_iinc (ls2 := [some (.ref (50)), some (va_rf (a0)), some (.int (a1)), some (.long (v3)), none, some (.long (v5)), none, some (.int ((v7) + 1)), none, none, none]) f11_92 (by decide) rfl rfl ?_
  refine e_goto f11_95 ?_
  refine ex_weak (ls := [some (.ref (50)), some (va_rf (a0)), some (.int (a1)), some (.long (v3)), none, some (.long (v5)), none, some (.int ((v7) + 1)), none, none, none]) (le2_ok ⟨Or.inr rfl, Or.inr rfl, Or.inr rfl, Or.inr rfl, Or.inl rfl, Or.inr rfl, Or.inl rfl, Or.inr rfl, Or.inl rfl, Or.inl rfl, Or.inl rfl, trivial⟩) ?_
  exact hK8 (v3) (v5) ((v7) + 1) _ hp
set_option maxRecDepth 100000 in
set_option maxHeartbeats 4000000 in
theorem p11_L8_ok (d : Nat) (F : Nat) (a0 : Option Nat) (a1 : Int32) (h : HS) (w : WF h)  : ∀ (n : Nat) (v3 : Int64) (v5 : Int64) (v7 : Int32) (r : Int64), p11_L8 F a0 a1 n h v3 v5 v7 = some r → ex (d + 1) 11 (8, [some (.ref (50)), some (va_rf (a0)), some (.int (a1)), some (.long (v3)), none, some (.long (v5)), none, some (.int (v7)), none, none, none], [], h) = some (some (.long (r)), h) := by
  intro n
  induction n with
  | zero => intro v3 v5 v7 r hp; cases hp
  | succ n ih =>
    intro v3 v5 v7 r hp
    unfold p11_L8 at hp
    refine e_iload f11_8 rfl ?_
    refine e_aload_n f11_10 rfl ?_
    refine e_getI f11_11 (WF.t w 50 (by decide)) (by decide) ?_
    by_cases hc1 : (v7) < ((hI (h) (50) 2) : Int32)
    · rw [if_pos hc1] at hp
      refine e_icmp_ge_f f11_14 hc1 ?_
      refine e_aload_n f11_17 rfl ?_
      refine e_getR f11_18 (WF.t w 50 (by decide)) rfl (WF.r (q := 53) w 50 7 (by decide)) ?_
      refine e_iload f11_21 rfl ?_
      by_cases hg2 : (v7) < (0 : Int32) ∨ 400 ≤ (v7).toNatClampNeg
      · rw [if_pos hg2] at hp; cases hp
      rw [if_neg hg2] at hp
      refine e_aaload f11_23 (Or.inr (Or.inr (Or.inr (WF.t w 53 (by decide))))) (WF.n w 53 (by decide)) hg2 ?_
      refine e_qstore (ls2 := [some (.ref (50)), some (va_rf (a0)), some (.int (a1)), some (.long (v3)), none, some (.long (v5)), none, some (.int (v7)), some (va_rf (hR (h) (53) (v7).toNatClampNeg)), none, none]) f11_24 (Nat.le_of_ble_eq_true rfl) rfl ?_
      refine e_qload f11_26 rfl ?_
      obtain ⟨o3, ho4, hp⟩ := bind_some hp
      try dsimp only at hp
      rw [ho4]
      by_cases hg5 : hT (h) (o3) = 5
      rotate_left
      · rw [if_neg hg5] at hp; cases hp
      rw [if_pos hg5] at hp
      refine e_getI f11_28 hg5 (by decide) ?_
      refine e_qload_n f11_31 rfl ?_
      obtain ⟨o6, ho7, hp⟩ := bind_some hp
      try dsimp only at hp
      rw [ho7]
      by_cases hg8 : hT (h) (o6) = 5
      rotate_left
      · rw [if_neg hg8] at hp; cases hp
      rw [if_pos hg8] at hp
      refine e_getI f11_32 hg8 (by decide) ?_
      by_cases hc9 : (hI (h) (o6) 8) < ((hI (h) (o3) 8) : Int32)
      · rw [if_pos hc9] at hp
        refine e_icmp_gt_t f11_35 hc9 ?_
        refine ex_weak (ls := [some (.ref (50)), some (va_rf (a0)), some (.int (a1)), some (.long (v3)), none, some (.long (v5)), none, some (.int (v7)), none, none, none]) (le2_ok ⟨Or.inr rfl, Or.inr (congrArg (fun z => some (va_rf z)) ho7), Or.inr rfl, Or.inr rfl, Or.inl rfl, Or.inr rfl, Or.inl rfl, Or.inr rfl, Or.inl rfl, Or.inl rfl, Or.inl rfl, trivial⟩) ?_
        exact p11_j92_ok d F a0 a1 ((p11_L8 F a0 a1 n h)) (h) (w) (ih) (v3) (v5) (v7) _ hp
      · rw [if_neg hc9] at hp
        refine e_icmp_gt_f f11_35 hc9 ?_
        refine e_aload_n f11_38 rfl ?_
        refine e_getI f11_39 hg8 (by decide) ?_
        refine e_aload f11_42 rfl ?_
        refine e_getI f11_44 hg5 (by decide) ?_
        by_cases hc10 : (hI (h) (o3) 9) < ((hI (h) (o6) 8) : Int32)
        · rw [if_pos hc10] at hp
          refine e_icmp_gt_t f11_47 hc10 ?_
          refine ex_weak (ls := [some (.ref (50)), some (va_rf (a0)), some (.int (a1)), some (.long (v3)), none, some (.long (v5)), none, some (.int (v7)), none, none, none]) (le2_ok ⟨Or.inr rfl, Or.inr (congrArg (fun z => some (va_rf z)) ho7), Or.inr rfl, Or.inr rfl, Or.inl rfl, Or.inr rfl, Or.inl rfl, Or.inr rfl, Or.inl rfl, Or.inl rfl, Or.inl rfl, trivial⟩) ?_
          exact p11_j92_ok d F a0 a1 ((p11_L8 F a0 a1 n h)) (h) (w) (ih) (v3) (v5) (v7) _ hp
        · rw [if_neg hc10] at hp
          refine e_icmp_gt_f f11_47 hc10 ?_
          refine e_aload f11_50 rfl ?_
          refine e_iload_n f11_52 rfl ?_
          obtain ⟨r11, hr12, hp⟩ := bind_some hp
          try dsimp only at hp
          refine e_callV (st := []) (o := o3) (as := [.int (a1)]) f11_53 (by decide) rfl rfl (Nat.le_of_ble_eq_true rfl) hg5 (Nat.le_of_ble_eq_true rfl) (p69_ok d (h) w (o3) (a1) hg5 r11 hr12) ?_
          show ex _ 11 (56, [some (.ref (50)), some (.ref (o6)), some (.int (a1)), some (.long (v3)), none, some (.long (v5)), none, some (.int (v7)), some (.ref (o3)), none, none], [.int (r11)], h) = _
          by_cases hc13 : (r11) = (0 : Int32)
          · rw [if_pos hc13] at hp
            refine e_if_eq_t f11_56 hc13 ?_
            refine ex_weak (ls := [some (.ref (50)), some (va_rf (a0)), some (.int (a1)), some (.long (v3)), none, some (.long (v5)), none, some (.int (v7)), none, none, none]) (le2_ok ⟨Or.inr rfl, Or.inr (congrArg (fun z => some (va_rf z)) ho7), Or.inr rfl, Or.inr rfl, Or.inl rfl, Or.inr rfl, Or.inl rfl, Or.inr rfl, Or.inl rfl, Or.inl rfl, Or.inl rfl, trivial⟩) ?_
            exact p11_j92_ok d F a0 a1 ((p11_L8 F a0 a1 n h)) (h) (w) (ih) (v3) (v5) (v7) _ hp
          · rw [if_neg hc13] at hp
            refine e_if_eq_f f11_56 hc13 ?_
            refine e_lconst (v := 1) f11_59 (by decide) ?_
            refine e_aload f11_60 rfl ?_
            refine e_getI f11_62 hg5 (by decide) ?_
            refine e_lshl f11_65 ?_
            refine e_lstore (ls2 := [some (.ref (50)), some (.ref (o6)), some (.int (a1)), some (.long (v3)), none, some (.long (v5)), none, some (.int (v7)), some (.ref (o3)), some (.long (((1 : Int64)) <<< ((hI (h) (o3) 4).toInt64 &&& 63))), none]) f11_66 (Nat.le_of_ble_eq_true rfl) rfl ?_
            refine e_lload_n f11_68 rfl ?_
            refine e_lload f11_69 rfl ?_
            refine e_lor f11_71 ?_
            refine e_lstore_n (ls2 := [some (.ref (50)), some (.ref (o6)), some (.int (a1)), some (.long ((v3) ||| (((1 : Int64)) <<< ((hI (h) (o3) 4).toInt64 &&& 63)))), none, some (.long (v5)), none, some (.int (v7)), some (.ref (o3)), some (.long (((1 : Int64)) <<< ((hI (h) (o3) 4).toInt64 &&& 63))), none]) f11_72 (Nat.le_of_ble_eq_true rfl) rfl ?_
            refine e_aload f11_73 rfl ?_
            refine e_getI f11_75 hg5 (by decide) ?_
            refine e_aload_n f11_78 rfl ?_
            refine e_getI f11_79 hg8 (by decide) ?_
            by_cases hc14 : (hI (h) (o3) 6) = ((hI (h) (o6) 6) : Int32)
            · rw [if_pos hc14] at hp
              refine e_icmp_ne_f f11_82 hc14 ?_
              refine e_lload f11_85 rfl ?_
              refine e_lload f11_87 rfl ?_
              refine e_lor f11_89 ?_
              refine e_lstore (ls2 := [some (.ref (50)), some (.ref (o6)), some (.int (a1)), some (.long ((v3) ||| (((1 : Int64)) <<< ((hI (h) (o3) 4).toInt64 &&& 63)))), none, some (.long ((v5) ||| (((1 : Int64)) <<< ((hI (h) (o3) 4).toInt64 &&& 63)))), none, some (.int (v7)), some (.ref (o3)), some (.long (((1 : Int64)) <<< ((hI (h) (o3) 4).toInt64 &&& 63))), none]) f11_90 (Nat.le_of_ble_eq_true rfl) rfl ?_
              refine ex_weak (ls := [some (.ref (50)), some (va_rf (a0)), some (.int (a1)), some (.long ((v3) ||| (((1 : Int64)) <<< ((hI (h) (o3) 4).toInt64 &&& 63)))), none, some (.long ((v5) ||| (((1 : Int64)) <<< ((hI (h) (o3) 4).toInt64 &&& 63)))), none, some (.int (v7)), none, none, none]) (le2_ok ⟨Or.inr rfl, Or.inr (congrArg (fun z => some (va_rf z)) ho7), Or.inr rfl, Or.inr rfl, Or.inl rfl, Or.inr rfl, Or.inl rfl, Or.inr rfl, Or.inl rfl, Or.inl rfl, Or.inl rfl, trivial⟩) ?_
              exact p11_j92_ok d F a0 a1 ((p11_L8 F a0 a1 n h)) (h) (w) (ih) ((v3) ||| (((1 : Int64)) <<< ((hI (h) (o3) 4).toInt64 &&& 63))) ((v5) ||| (((1 : Int64)) <<< ((hI (h) (o3) 4).toInt64 &&& 63))) (v7) _ hp
            · rw [if_neg hc14] at hp
              refine e_icmp_ne_t f11_82 hc14 ?_
              refine ex_weak (ls := [some (.ref (50)), some (va_rf (a0)), some (.int (a1)), some (.long ((v3) ||| (((1 : Int64)) <<< ((hI (h) (o3) 4).toInt64 &&& 63)))), none, some (.long (v5)), none, some (.int (v7)), none, none, none]) (le2_ok ⟨Or.inr rfl, Or.inr (congrArg (fun z => some (va_rf z)) ho7), Or.inr rfl, Or.inr rfl, Or.inl rfl, Or.inr rfl, Or.inl rfl, Or.inr rfl, Or.inl rfl, Or.inl rfl, Or.inl rfl, trivial⟩) ?_
              exact p11_j92_ok d F a0 a1 ((p11_L8 F a0 a1 n h)) (h) (w) (ih) ((v3) ||| (((1 : Int64)) <<< ((hI (h) (o3) 4).toInt64 &&& 63))) (v5) (v7) _ hp
    · rw [if_neg hc1] at hp
      refine e_icmp_ge_t f11_14 hc1 ?_
      refine e_lload_n f11_98 rfl ?_
      refine e_lload f11_99 rfl ?_
      refine e_ldc2 (v := -1) f11_101 (by decide) ?_
      refine e_lxor f11_104 ?_
      refine e_land f11_105 ?_
      refine e_lconst (v := 1) f11_106 (by decide) ?_
      refine e_qload_n f11_107 rfl ?_
      obtain ⟨o15, ho16, hp⟩ := bind_some hp
      try dsimp only at hp
      rw [ho16]
      by_cases hg17 : hT (h) (o15) = 5
      rotate_left
      · rw [if_neg hg17] at hp; cases hp
      rw [if_pos hg17] at hp
      refine e_getI f11_108 hg17 (by decide) ?_
      refine e_lshl f11_111 ?_
      refine e_lor f11_112 ?_
      have hp := Option.some.inj hp
      subst hp
      exact e_lreturn f11_113
set_option maxRecDepth 100000 in
set_option maxHeartbeats 4000000 in
theorem p11_ok (d : Nat) (F : Nat) (h : HS) (w : WF h) (a0 : Option Nat) (a1 : Int32) (r : Int64) (hp : p11 F h a0 a1 = some r) : ex (d + 1) 11 (ent 11 [.ref (50), va_rf (a0), .int (a1)] h) = some (some (.long (r)), h) := by
  rw [show ent 11 [.ref (50), va_rf (a0), .int (a1)] h = (0, [some (.ref (50)), some (va_rf (a0)), some (.int (a1)), none, none, none, none, none, none, none, none], [], h) from by cases a0 <;> rfl]
  refine ex_weak (ls := [some (.ref (50)), some (va_rf (a0)), some (.int (a1)), none, none, none, none, none, none, none, none]) (le2_ok ⟨Or.inr rfl, Or.inr rfl, Or.inr rfl, Or.inr rfl, Or.inr rfl, Or.inr rfl, Or.inr rfl, Or.inr rfl, Or.inr rfl, Or.inr rfl, Or.inr rfl, trivial⟩) ?_
  unfold p11 at hp
  refine e_lconst (v := 0) f11_0 (by decide) ?_
  refine e_lstore_n (ls2 := [some (.ref (50)), some (va_rf (a0)), some (.int (a1)), some (.long ((0 : Int64))), none, none, none, none, none, none, none]) f11_1 (Nat.le_of_ble_eq_true rfl) rfl ?_
  refine e_lconst (v := 0) f11_2 (by decide) ?_
  refine e_lstore (ls2 := [some (.ref (50)), some (va_rf (a0)), some (.int (a1)), some (.long ((0 : Int64))), none, some (.long ((0 : Int64))), none, none, none, none, none]) f11_3 (Nat.le_of_ble_eq_true rfl) rfl ?_
  refine e_iconst (v := 0) f11_5 (by decide) ?_
  refine e_istore (ls2 := [some (.ref (50)), some (va_rf (a0)), some (.int (a1)), some (.long ((0 : Int64))), none, some (.long ((0 : Int64))), none, some (.int (0)), none, none, none]) f11_6 (Nat.le_of_ble_eq_true rfl) rfl ?_
  refine ex_weak (ls := [some (.ref (50)), some (va_rf (a0)), some (.int (a1)), some (.long ((0 : Int64))), none, some (.long ((0 : Int64))), none, some (.int (0)), none, none, none]) (le2_ok ⟨Or.inr rfl, Or.inr rfl, Or.inr rfl, Or.inr rfl, Or.inl rfl, Or.inr rfl, Or.inl rfl, Or.inr rfl, Or.inl rfl, Or.inl rfl, Or.inl rfl, trivial⟩) ?_
  exact p11_L8_ok d F a0 a1 (h) (w) F ((0 : Int64)) ((0 : Int64)) (0) _ hp
theorem f12_0 : fetch 12 0 = some (.iconst 0, 0, 0, 0) := rfl
theorem f12_1 : fetch 12 1 = some (.istore 4, 0, 0, 0) := rfl
theorem f12_3 : fetch 12 3 = some (.iload 4, 0, 0, 0) := rfl
theorem f12_5 : fetch 12 5 = some (.aload_n 0, 0, 0, 0) := rfl
theorem f12_6 : fetch 12 6 = some (.getfield 48, 0, 3, 0) := rfl
theorem f12_9 : fetch 12 9 = some (.if_icmp .ge 55, 64, 0, 0) := rfl
theorem f12_12 : fetch 12 12 = some (.aload_n 0, 0, 0, 0) := rfl
theorem f12_13 : fetch 12 13 = some (.getfield 24, 0, 8, 2) := rfl
theorem f12_16 : fetch 12 16 = some (.iload 4, 0, 0, 0) := rfl
theorem f12_18 : fetch 12 18 = some (.aaload, 0, 0, 0) := rfl
theorem f12_19 : fetch 12 19 = some (.astore 5, 0, 0, 0) := rfl
theorem f12_21 : fetch 12 21 = some (.aload 5, 0, 0, 0) := rfl
theorem f12_23 : fetch 12 23 = some (.getfield 78, 5, 3, 0) := rfl
theorem f12_26 : fetch 12 26 = some (.iload_n 1, 0, 0, 0) := rfl
theorem f12_27 : fetch 12 27 = some (.if_icmp .ne 31, 58, 0, 0) := rfl
theorem f12_30 : fetch 12 30 = some (.aload 5, 0, 0, 0) := rfl
theorem f12_32 : fetch 12 32 = some (.iload_n 3, 0, 0, 0) := rfl
theorem f12_33 : fetch 12 33 = some (.invokevirtual 67, 69, 1, 0) := rfl
theorem f12_36 : fetch 12 36 = some (.ifCond .eq 22, 58, 0, 0) := rfl
theorem f12_39 : fetch 12 39 = some (.aload_n 0, 0, 0, 0) := rfl
theorem f12_40 : fetch 12 40 = some (.aload 5, 0, 0, 0) := rfl
theorem f12_42 : fetch 12 42 = some (.iload_n 3, 0, 0, 0) := rfl
theorem f12_43 : fetch 12 43 = some (.invokevirtual 81, 11, 2, 0) := rfl
theorem f12_46 : fetch 12 46 = some (.iload_n 2, 0, 0, 0) := rfl
theorem f12_47 : fetch 12 47 = some (.lushr, 0, 0, 0) := rfl
theorem f12_48 : fetch 12 48 = some (.lconst 1, 0, 0, 0) := rfl
theorem f12_49 : fetch 12 49 = some (.land, 0, 0, 0) := rfl
theorem f12_50 : fetch 12 50 = some (.lconst 0, 0, 0, 0) := rfl
theorem f12_51 : fetch 12 51 = some (.lcmp, 0, 0, 0) := rfl
theorem f12_52 : fetch 12 52 = some (.ifCond .eq 6, 58, 0, 0) := rfl
theorem f12_55 : fetch 12 55 = some (.iload 4, 0, 0, 0) := rfl
theorem f12_57 : fetch 12 57 = some (.ireturn, 0, 0, 0) := rfl
theorem f12_58 : fetch 12 58 = some (.iinc 4 1, 0, 0, 0) := rfl
theorem f12_61 : fetch 12 61 = some (.goto (-58), 3, 0, 0) := rfl
theorem f12_64 : fetch 12 64 = some (.iconst (-1), 0, 0, 0) := rfl
theorem f12_65 : fetch 12 65 = some (.ireturn, 0, 0, 0) := rfl
set_option maxRecDepth 100000 in
set_option maxHeartbeats 4000000 in
theorem p12_j58_ok (d : Nat) (F : Nat) (a0 : Int32) (a1 : Int32) (a2 : Int32) (K3 : Int32 → Option (Int32)) (h : HS) (w : WF h) (hK3 : ∀ (u4 : Int32) (r : Int32), K3 u4 = some r → ex (d + 2) 12 (3, [some (.ref (50)), some (.int (a0)), some (.int (a1)), some (.int (a2)), some (.int (u4)), none], [], h) = some (some (.int (r)), h)) (v4 : Int32) (r : Int32) (hp : p12_j58 F a0 a1 a2 K3 h v4 = some r) : ex (d + 2) 12 (58, [some (.ref (50)), some (.int (a0)), some (.int (a1)), some (.int (a2)), some (.int (v4)), none], [], h) = some (some (.int (r)), h) := by
  unfold p12_j58 at hp
  refine e_iinc (ls2 := [some (.ref (50)), some (.int (a0)), some (.int (a1)), some (.int (a2)), some (.int ((v4) + 1)), none]) f12_58 (by decide) rfl rfl ?_
  refine e_goto f12_61 ?_
  refine ex_weak (ls := [some (.ref (50)), some (.int (a0)), some (.int (a1)), some (.int (a2)), some (.int ((v4) + 1)), none]) (le2_ok ⟨Or.inr rfl, Or.inr rfl, Or.inr rfl, Or.inr rfl, Or.inr rfl, Or.inl rfl, trivial⟩) ?_
  exact hK3 ((v4) + 1) _ hp
set_option maxRecDepth 100000 in
set_option maxHeartbeats 4000000 in
theorem p12_L3_ok (d : Nat) (F : Nat) (a0 : Int32) (a1 : Int32) (a2 : Int32) (h : HS) (w : WF h)  : ∀ (n : Nat) (v4 : Int32) (r : Int32), p12_L3 F a0 a1 a2 n h v4 = some r → ex (d + 2) 12 (3, [some (.ref (50)), some (.int (a0)), some (.int (a1)), some (.int (a2)), some (.int (v4)), none], [], h) = some (some (.int (r)), h) := by
  intro n
  induction n with
  | zero => intro v4 r hp; cases hp
  | succ n ih =>
    intro v4 r hp
    unfold p12_L3 at hp
    refine e_iload f12_3 rfl ?_
    refine e_aload_n f12_5 rfl ?_
    refine e_getI f12_6 (WF.t w 50 (by decide)) (by decide) ?_
    by_cases hc1 : (v4) < ((hI (h) (50) 3) : Int32)
    · rw [if_pos hc1] at hp
      refine e_icmp_ge_f f12_9 hc1 ?_
      refine e_aload_n f12_12 rfl ?_
      refine e_getR f12_13 (WF.t w 50 (by decide)) rfl (WF.r (q := 54) w 50 8 (by decide)) ?_
      refine e_iload f12_16 rfl ?_
      by_cases hg2 : (v4) < (0 : Int32) ∨ 200 ≤ (v4).toNatClampNeg
      · rw [if_pos hg2] at hp; cases hp
      rw [if_neg hg2] at hp
      refine e_aaload f12_18 (Or.inr (Or.inr (Or.inr (WF.t w 54 (by decide))))) (WF.n w 54 (by decide)) hg2 ?_
      refine e_qstore (ls2 := [some (.ref (50)), some (.int (a0)), some (.int (a1)), some (.int (a2)), some (.int (v4)), some (va_rf (hR (h) (54) (v4).toNatClampNeg))]) f12_19 (Nat.le_of_ble_eq_true rfl) rfl ?_
      refine e_qload f12_21 rfl ?_
      obtain ⟨o3, ho4, hp⟩ := bind_some hp
      try dsimp only at hp
      rw [ho4]
      by_cases hg5 : hT (h) (o3) = 5
      rotate_left
      · rw [if_neg hg5] at hp; cases hp
      rw [if_pos hg5] at hp
      refine e_getI f12_23 hg5 (by decide) ?_
      refine e_iload_n f12_26 rfl ?_
      by_cases hc6 : (hI (h) (o3) 3) = ((a0) : Int32)
      · rw [if_pos hc6] at hp
        refine e_icmp_ne_f f12_27 hc6 ?_
        refine e_aload f12_30 rfl ?_
        refine e_iload_n f12_32 rfl ?_
        obtain ⟨r7, hr8, hp⟩ := bind_some hp
        try dsimp only at hp
        refine e_callV (st := []) (o := o3) (as := [.int (a2)]) f12_33 (by decide) rfl rfl (Nat.le_of_ble_eq_true rfl) hg5 (Nat.le_of_ble_eq_true rfl) (p69_ok (d + 1) (h) w (o3) (a2) hg5 r7 hr8) ?_
        show ex _ 12 (36, [some (.ref (50)), some (.int (a0)), some (.int (a1)), some (.int (a2)), some (.int (v4)), some (.ref (o3))], [.int (r7)], h) = _
        by_cases hc9 : (r7) = (0 : Int32)
        · rw [if_pos hc9] at hp
          refine e_if_eq_t f12_36 hc9 ?_
          refine ex_weak (ls := [some (.ref (50)), some (.int (a0)), some (.int (a1)), some (.int (a2)), some (.int (v4)), none]) (le2_ok ⟨Or.inr rfl, Or.inr rfl, Or.inr rfl, Or.inr rfl, Or.inr rfl, Or.inl rfl, trivial⟩) ?_
          exact p12_j58_ok d F a0 a1 a2 ((p12_L3 F a0 a1 a2 n h)) (h) (w) (ih) (v4) _ hp
        · rw [if_neg hc9] at hp
          refine e_if_eq_f f12_36 hc9 ?_
          refine e_aload_n f12_39 rfl ?_
          refine e_aload f12_40 rfl ?_
          refine e_iload_n f12_42 rfl ?_
          obtain ⟨r10, hr11, hp⟩ := bind_some hp
          try dsimp only at hp
          refine e_callV (st := []) (o := 50) (as := [.ref (o3), .int (a2)]) f12_43 (by decide) rfl rfl (Nat.le_of_ble_eq_true rfl) (WF.t w 50 (by decide)) (Nat.le_of_ble_eq_true rfl) (p11_ok d F (h) w (some (o3)) (a2) r10 hr11) ?_
          show ex _ 12 (46, [some (.ref (50)), some (.int (a0)), some (.int (a1)), some (.int (a2)), some (.int (v4)), some (.ref (o3))], [.long (r10)], h) = _
          refine e_iload_n f12_46 rfl ?_
          refine e_lushr f12_47 ?_
          refine e_lconst (v := 1) f12_48 (by decide) ?_
          refine e_land f12_49 ?_
          refine e_lconst (v := 0) f12_50 (by decide) ?_
          refine e_lcmp f12_51 ?_
          by_cases hc12 : (lg_cmp ((((r10).toUInt64 >>> ((a1).toInt64.toUInt64 &&& Int64.toUInt64 63)).toInt64) &&& ((1 : Int64))) ((0 : Int64))) = (0 : Int32)
          · rw [if_pos hc12] at hp
            refine e_if_eq_t f12_52 hc12 ?_
            refine ex_weak (ls := [some (.ref (50)), some (.int (a0)), some (.int (a1)), some (.int (a2)), some (.int (v4)), none]) (le2_ok ⟨Or.inr rfl, Or.inr rfl, Or.inr rfl, Or.inr rfl, Or.inr rfl, Or.inl rfl, trivial⟩) ?_
            exact p12_j58_ok d F a0 a1 a2 ((p12_L3 F a0 a1 a2 n h)) (h) (w) (ih) (v4) _ hp
          · rw [if_neg hc12] at hp
            refine e_if_eq_f f12_52 hc12 ?_
            refine e_iload f12_55 rfl ?_
            have hp := Option.some.inj hp
            subst hp
            exact e_ireturn f12_57 (Or.inl rfl)
      · rw [if_neg hc6] at hp
        refine e_icmp_ne_t f12_27 hc6 ?_
        refine ex_weak (ls := [some (.ref (50)), some (.int (a0)), some (.int (a1)), some (.int (a2)), some (.int (v4)), none]) (le2_ok ⟨Or.inr rfl, Or.inr rfl, Or.inr rfl, Or.inr rfl, Or.inr rfl, Or.inl rfl, trivial⟩) ?_
        exact p12_j58_ok d F a0 a1 a2 ((p12_L3 F a0 a1 a2 n h)) (h) (w) (ih) (v4) _ hp
    · rw [if_neg hc1] at hp
      refine e_icmp_ge_t f12_9 hc1 ?_
      refine e_iconst (v := -1) f12_64 (by decide) ?_
      have hp := Option.some.inj hp
      subst hp
      exact e_ireturn f12_65 (Or.inl rfl)
set_option maxRecDepth 100000 in
set_option maxHeartbeats 4000000 in
theorem p12_ok (d : Nat) (F : Nat) (h : HS) (w : WF h) (a0 : Int32) (a1 : Int32) (a2 : Int32) (r : Int32) (hp : p12 F h a0 a1 a2 = some r) : ex (d + 2) 12 (ent 12 [.ref (50), .int (a0), .int (a1), .int (a2)] h) = some (some (.int (r)), h) := by
  rw [show ent 12 [.ref (50), .int (a0), .int (a1), .int (a2)] h = (0, [some (.ref (50)), some (.int (a0)), some (.int (a1)), some (.int (a2)), none, none], [], h) from by  rfl]
  refine ex_weak (ls := [some (.ref (50)), some (.int (a0)), some (.int (a1)), some (.int (a2)), none, none]) (le2_ok ⟨Or.inr rfl, Or.inr rfl, Or.inr rfl, Or.inr rfl, Or.inr rfl, Or.inr rfl, trivial⟩) ?_
  unfold p12 at hp
  refine e_iconst (v := 0) f12_0 (by decide) ?_
  refine e_istore (ls2 := [some (.ref (50)), some (.int (a0)), some (.int (a1)), some (.int (a2)), some (.int (0)), none]) f12_1 (Nat.le_of_ble_eq_true rfl) rfl ?_
  refine ex_weak (ls := [some (.ref (50)), some (.int (a0)), some (.int (a1)), some (.int (a2)), some (.int (0)), none]) (le2_ok ⟨Or.inr rfl, Or.inr rfl, Or.inr rfl, Or.inr rfl, Or.inr rfl, Or.inl rfl, trivial⟩) ?_
  exact p12_L3_ok d F a0 a1 a2 (h) (w) F (0) _ hp
theorem f13_0 : fetch 13 0 = some (.aload_n 0, 0, 0, 0) := rfl
theorem f13_1 : fetch 13 1 = some (.invokevirtual 85, 10, 0, 0) := rfl
theorem f13_4 : fetch 13 4 = some (.lstore_n 3, 0, 0, 0) := rfl
theorem f13_5 : fetch 13 5 = some (.iconst 0, 0, 0, 0) := rfl
theorem f13_6 : fetch 13 6 = some (.istore 5, 0, 0, 0) := rfl
theorem f13_8 : fetch 13 8 = some (.iload 5, 0, 0, 0) := rfl
theorem f13_10 : fetch 13 10 = some (.aload_n 0, 0, 0, 0) := rfl
theorem f13_11 : fetch 13 11 = some (.getfield 48, 0, 3, 0) := rfl
theorem f13_14 : fetch 13 14 = some (.if_icmp .ge 50, 64, 0, 0) := rfl
theorem f13_17 : fetch 13 17 = some (.aload_n 0, 0, 0, 0) := rfl
theorem f13_18 : fetch 13 18 = some (.getfield 24, 0, 8, 2) := rfl
theorem f13_21 : fetch 13 21 = some (.iload 5, 0, 0, 0) := rfl
theorem f13_23 : fetch 13 23 = some (.aaload, 0, 0, 0) := rfl
theorem f13_24 : fetch 13 24 = some (.astore 6, 0, 0, 0) := rfl
theorem f13_26 : fetch 13 26 = some (.aload 6, 0, 0, 0) := rfl
theorem f13_28 : fetch 13 28 = some (.getfield 78, 5, 3, 0) := rfl
theorem f13_31 : fetch 13 31 = some (.iload_n 1, 0, 0, 0) := rfl
theorem f13_32 : fetch 13 32 = some (.if_icmp .ne 26, 58, 0, 0) := rfl
theorem f13_35 : fetch 13 35 = some (.aload 6, 0, 0, 0) := rfl
theorem f13_37 : fetch 13 37 = some (.iload_n 2, 0, 0, 0) := rfl
theorem f13_38 : fetch 13 38 = some (.invokevirtual 67, 69, 1, 0) := rfl
theorem f13_41 : fetch 13 41 = some (.ifCond .eq 17, 58, 0, 0) := rfl
theorem f13_44 : fetch 13 44 = some (.lload_n 3, 0, 0, 0) := rfl
theorem f13_45 : fetch 13 45 = some (.aload_n 0, 0, 0, 0) := rfl
theorem f13_46 : fetch 13 46 = some (.aload 6, 0, 0, 0) := rfl
theorem f13_48 : fetch 13 48 = some (.iload_n 2, 0, 0, 0) := rfl
theorem f13_49 : fetch 13 49 = some (.invokevirtual 81, 11, 2, 0) := rfl
theorem f13_52 : fetch 13 52 = some (.ldc2_w 76, 0, 0, -1) := rfl
theorem f13_55 : fetch 13 55 = some (.lxor, 0, 0, 0) := rfl
theorem f13_56 : fetch 13 56 = some (.land, 0, 0, 0) := rfl
theorem f13_57 : fetch 13 57 = some (.lstore_n 3, 0, 0, 0) := rfl
theorem f13_58 : fetch 13 58 = some (.iinc 5 1, 0, 0, 0) := rfl
theorem f13_61 : fetch 13 61 = some (.goto (-53), 8, 0, 0) := rfl
theorem f13_64 : fetch 13 64 = some (.lload_n 3, 0, 0, 0) := rfl
theorem f13_65 : fetch 13 65 = some (.lreturn, 0, 0, 0) := rfl
set_option maxRecDepth 100000 in
set_option maxHeartbeats 4000000 in
theorem p13_j58_ok (d : Nat) (F : Nat) (a0 : Int32) (a1 : Int32) (K8 : Int64 → Int32 → Option (Int64)) (h : HS) (w : WF h) (hK8 : ∀ (u3 : Int64) (u5 : Int32) (r : Int64), K8 u3 u5 = some r → ex (d + 2) 13 (8, [some (.ref (50)), some (.int (a0)), some (.int (a1)), some (.long (u3)), none, some (.int (u5)), none], [], h) = some (some (.long (r)), h)) (v3 : Int64) (v5 : Int32) (r : Int64) (hp : p13_j58 F a0 a1 K8 h v3 v5 = some r) : ex (d + 2) 13 (58, [some (.ref (50)), some (.int (a0)), some (.int (a1)), some (.long (v3)), none, some (.int (v5)), none], [], h) = some (some (.long (r)), h) := by
  unfold p13_j58 at hp
  refine e_iinc (ls2 := [some (.ref (50)), some (.int (a0)), some (.int (a1)), some (.long (v3)), none, some (.int ((v5) + 1)), none]) f13_58 (by decide) rfl rfl ?_
  refine e_goto f13_61 ?_
  refine ex_weak (ls := [some (.ref (50)), some (.int (a0)), some (.int (a1)), some (.long (v3)), none, some (.int ((v5) + 1)), none]) (le2_ok ⟨Or.inr rfl, Or.inr rfl, Or.inr rfl, Or.inr rfl, Or.inl rfl, Or.inr rfl, Or.inl rfl, trivial⟩) ?_
  exact hK8 (v3) ((v5) + 1) _ hp
set_option maxRecDepth 100000 in
set_option maxHeartbeats 4000000 in
theorem p13_L8_ok (d : Nat) (F : Nat) (a0 : Int32) (a1 : Int32) (h : HS) (w : WF h)  : ∀ (n : Nat) (v3 : Int64) (v5 : Int32) (r : Int64), p13_L8 F a0 a1 n h v3 v5 = some r → ex (d + 2) 13 (8, [some (.ref (50)), some (.int (a0)), some (.int (a1)), some (.long (v3)), none, some (.int (v5)), none], [], h) = some (some (.long (r)), h) := by
  intro n
  induction n with
  | zero => intro v3 v5 r hp; cases hp
  | succ n ih =>
    intro v3 v5 r hp
    unfold p13_L8 at hp
    refine e_iload f13_8 rfl ?_
    refine e_aload_n f13_10 rfl ?_
    refine e_getI f13_11 (WF.t w 50 (by decide)) (by decide) ?_
    by_cases hc3 : (v5) < ((hI (h) (50) 3) : Int32)
    · rw [if_pos hc3] at hp
      refine e_icmp_ge_f f13_14 hc3 ?_
      refine e_aload_n f13_17 rfl ?_
      refine e_getR f13_18 (WF.t w 50 (by decide)) rfl (WF.r (q := 54) w 50 8 (by decide)) ?_
      refine e_iload f13_21 rfl ?_
      by_cases hg4 : (v5) < (0 : Int32) ∨ 200 ≤ (v5).toNatClampNeg
      · rw [if_pos hg4] at hp; cases hp
      rw [if_neg hg4] at hp
      refine e_aaload f13_23 (Or.inr (Or.inr (Or.inr (WF.t w 54 (by decide))))) (WF.n w 54 (by decide)) hg4 ?_
      refine e_qstore (ls2 := [some (.ref (50)), some (.int (a0)), some (.int (a1)), some (.long (v3)), none, some (.int (v5)), some (va_rf (hR (h) (54) (v5).toNatClampNeg))]) f13_24 (Nat.le_of_ble_eq_true rfl) rfl ?_
      refine e_qload f13_26 rfl ?_
      obtain ⟨o5, ho6, hp⟩ := bind_some hp
      try dsimp only at hp
      rw [ho6]
      by_cases hg7 : hT (h) (o5) = 5
      rotate_left
      · rw [if_neg hg7] at hp; cases hp
      rw [if_pos hg7] at hp
      refine e_getI f13_28 hg7 (by decide) ?_
      refine e_iload_n f13_31 rfl ?_
      by_cases hc8 : (hI (h) (o5) 3) = ((a0) : Int32)
      · rw [if_pos hc8] at hp
        refine e_icmp_ne_f f13_32 hc8 ?_
        refine e_aload f13_35 rfl ?_
        refine e_iload_n f13_37 rfl ?_
        obtain ⟨r9, hr10, hp⟩ := bind_some hp
        try dsimp only at hp
        refine e_callV (st := []) (o := o5) (as := [.int (a1)]) f13_38 (by decide) rfl rfl (Nat.le_of_ble_eq_true rfl) hg7 (Nat.le_of_ble_eq_true rfl) (p69_ok (d + 1) (h) w (o5) (a1) hg7 r9 hr10) ?_
        show ex _ 13 (41, [some (.ref (50)), some (.int (a0)), some (.int (a1)), some (.long (v3)), none, some (.int (v5)), some (.ref (o5))], [.int (r9)], h) = _
        by_cases hc11 : (r9) = (0 : Int32)
        · rw [if_pos hc11] at hp
          refine e_if_eq_t f13_41 hc11 ?_
          refine ex_weak (ls := [some (.ref (50)), some (.int (a0)), some (.int (a1)), some (.long (v3)), none, some (.int (v5)), none]) (le2_ok ⟨Or.inr rfl, Or.inr rfl, Or.inr rfl, Or.inr rfl, Or.inl rfl, Or.inr rfl, Or.inl rfl, trivial⟩) ?_
          exact p13_j58_ok d F a0 a1 ((p13_L8 F a0 a1 n h)) (h) (w) (ih) (v3) (v5) _ hp
        · rw [if_neg hc11] at hp
          refine e_if_eq_f f13_41 hc11 ?_
          refine e_lload_n f13_44 rfl ?_
          refine e_aload_n f13_45 rfl ?_
          refine e_aload f13_46 rfl ?_
          refine e_iload_n f13_48 rfl ?_
          obtain ⟨r12, hr13, hp⟩ := bind_some hp
          try dsimp only at hp
          refine e_callV (st := [.long (v3)]) (o := 50) (as := [.ref (o5), .int (a1)]) f13_49 (by decide) rfl rfl (Nat.le_of_ble_eq_true rfl) (WF.t w 50 (by decide)) (Nat.le_of_ble_eq_true rfl) (p11_ok d F (h) w (some (o5)) (a1) r12 hr13) ?_
          show ex _ 13 (52, [some (.ref (50)), some (.int (a0)), some (.int (a1)), some (.long (v3)), none, some (.int (v5)), some (.ref (o5))], [.long (r12), .long (v3)], h) = _
          refine e_ldc2 (v := -1) f13_52 (by decide) ?_
          refine e_lxor f13_55 ?_
          refine e_land f13_56 ?_
          refine e_lstore_n (ls2 := [some (.ref (50)), some (.int (a0)), some (.int (a1)), some (.long ((v3) &&& ((r12) ^^^ ((-1 : Int64))))), none, some (.int (v5)), some (.ref (o5))]) f13_57 (Nat.le_of_ble_eq_true rfl) rfl ?_
          refine ex_weak (ls := [some (.ref (50)), some (.int (a0)), some (.int (a1)), some (.long ((v3) &&& ((r12) ^^^ ((-1 : Int64))))), none, some (.int (v5)), none]) (le2_ok ⟨Or.inr rfl, Or.inr rfl, Or.inr rfl, Or.inr rfl, Or.inl rfl, Or.inr rfl, Or.inl rfl, trivial⟩) ?_
          exact p13_j58_ok d F a0 a1 ((p13_L8 F a0 a1 n h)) (h) (w) (ih) ((v3) &&& ((r12) ^^^ ((-1 : Int64)))) (v5) _ hp
      · rw [if_neg hc8] at hp
        refine e_icmp_ne_t f13_32 hc8 ?_
        refine ex_weak (ls := [some (.ref (50)), some (.int (a0)), some (.int (a1)), some (.long (v3)), none, some (.int (v5)), none]) (le2_ok ⟨Or.inr rfl, Or.inr rfl, Or.inr rfl, Or.inr rfl, Or.inl rfl, Or.inr rfl, Or.inl rfl, trivial⟩) ?_
        exact p13_j58_ok d F a0 a1 ((p13_L8 F a0 a1 n h)) (h) (w) (ih) (v3) (v5) _ hp
    · rw [if_neg hc3] at hp
      refine e_icmp_ge_t f13_14 hc3 ?_
      refine e_lload_n f13_64 rfl ?_
      have hp := Option.some.inj hp
      subst hp
      exact e_lreturn f13_65
set_option maxRecDepth 100000 in
set_option maxHeartbeats 4000000 in
theorem p13_ok (d : Nat) (F : Nat) (h : HS) (w : WF h) (a0 : Int32) (a1 : Int32) (r : Int64) (hp : p13 F h a0 a1 = some r) : ex (d + 2) 13 (ent 13 [.ref (50), .int (a0), .int (a1)] h) = some (some (.long (r)), h) := by
  rw [show ent 13 [.ref (50), .int (a0), .int (a1)] h = (0, [some (.ref (50)), some (.int (a0)), some (.int (a1)), none, none, none, none], [], h) from by  rfl]
  refine ex_weak (ls := [some (.ref (50)), some (.int (a0)), some (.int (a1)), none, none, none, none]) (le2_ok ⟨Or.inr rfl, Or.inr rfl, Or.inr rfl, Or.inr rfl, Or.inr rfl, Or.inr rfl, Or.inr rfl, trivial⟩) ?_
  unfold p13 at hp
  refine e_aload_n f13_0 rfl ?_
  obtain ⟨r1, hr2, hp⟩ := bind_some hp
  try dsimp only at hp
  refine e_callV (st := []) (o := 50) (as := []) f13_1 (by decide) rfl rfl (Nat.le_of_ble_eq_true rfl) (WF.t w 50 (by decide)) (Nat.le_of_ble_eq_true rfl) (p10_ok (d + 1) (h) w r1 hr2) ?_
  show ex _ 13 (4, [some (.ref (50)), some (.int (a0)), some (.int (a1)), none, none, none, none], [.long (r1)], h) = _
  refine e_lstore_n (ls2 := [some (.ref (50)), some (.int (a0)), some (.int (a1)), some (.long (r1)), none, none, none]) f13_4 (Nat.le_of_ble_eq_true rfl) rfl ?_
  refine e_iconst (v := 0) f13_5 (by decide) ?_
  refine e_istore (ls2 := [some (.ref (50)), some (.int (a0)), some (.int (a1)), some (.long (r1)), none, some (.int (0)), none]) f13_6 (Nat.le_of_ble_eq_true rfl) rfl ?_
  refine ex_weak (ls := [some (.ref (50)), some (.int (a0)), some (.int (a1)), some (.long (r1)), none, some (.int (0)), none]) (le2_ok ⟨Or.inr rfl, Or.inr rfl, Or.inr rfl, Or.inr rfl, Or.inl rfl, Or.inr rfl, Or.inl rfl, trivial⟩) ?_
  exact p13_L8_ok d F a0 a1 (h) (w) F (r1) (0) _ hp
theorem f16_0 : fetch 16 0 = some (.iconst 0, 0, 0, 0) := rfl
theorem f16_1 : fetch 16 1 = some (.istore 4, 0, 0, 0) := rfl
theorem f16_3 : fetch 16 3 = some (.iconst 0, 0, 0, 0) := rfl
theorem f16_4 : fetch 16 4 = some (.istore 5, 0, 0, 0) := rfl
theorem f16_6 : fetch 16 6 = some (.iload 5, 0, 0, 0) := rfl
theorem f16_8 : fetch 16 8 = some (.iload_n 1, 0, 0, 0) := rfl
theorem f16_9 : fetch 16 9 = some (.if_icmp .ge 34, 43, 0, 0) := rfl
theorem f16_12 : fetch 16 12 = some (.aload_n 0, 0, 0, 0) := rfl
theorem f16_13 : fetch 16 13 = some (.iload 5, 0, 0, 0) := rfl
theorem f16_15 : fetch 16 15 = some (.aaload, 0, 0, 0) := rfl
theorem f16_16 : fetch 16 16 = some (.getfield 78, 5, 3, 0) := rfl
theorem f16_19 : fetch 16 19 = some (.iload_n 2, 0, 0, 0) := rfl
theorem f16_20 : fetch 16 20 = some (.if_icmp .ne 17, 37, 0, 0) := rfl
theorem f16_23 : fetch 16 23 = some (.aload_n 0, 0, 0, 0) := rfl
theorem f16_24 : fetch 16 24 = some (.iload 5, 0, 0, 0) := rfl
theorem f16_26 : fetch 16 26 = some (.aaload, 0, 0, 0) := rfl
theorem f16_27 : fetch 16 27 = some (.iload_n 3, 0, 0, 0) := rfl
theorem f16_28 : fetch 16 28 = some (.invokevirtual 67, 69, 1, 0) := rfl
theorem f16_31 : fetch 16 31 = some (.ifCond .eq 6, 37, 0, 0) := rfl
theorem f16_34 : fetch 16 34 = some (.iinc 4 1, 0, 0, 0) := rfl
theorem f16_37 : fetch 16 37 = some (.iinc 5 1, 0, 0, 0) := rfl
theorem f16_40 : fetch 16 40 = some (.goto (-34), 6, 0, 0) := rfl
theorem f16_43 : fetch 16 43 = some (.iload 4, 0, 0, 0) := rfl
theorem f16_45 : fetch 16 45 = some (.ireturn, 0, 0, 0) := rfl
set_option maxRecDepth 100000 in
set_option maxHeartbeats 4000000 in
theorem p16_j37_ok (d : Nat) (F : Nat) (a0 : Option Nat) (a1 : Int32) (a2 : Int32) (a3 : Int32) (K6 : Int32 → Int32 → Option (Int32)) (h : HS) (w : WF h) (hK6 : ∀ (u4 : Int32) (u5 : Int32) (r : Int32), K6 u4 u5 = some r → ex (d + 1) 16 (6, [some (va_rf (a0)), some (.int (a1)), some (.int (a2)), some (.int (a3)), some (.int (u4)), some (.int (u5))], [], h) = some (some (.int (r)), h)) (v4 : Int32) (v5 : Int32) (r : Int32) (hp : p16_j37 F a0 a1 a2 a3 K6 h v4 v5 = some r) : ex (d + 1) 16 (37, [some (va_rf (a0)), some (.int (a1)), some (.int (a2)), some (.int (a3)), some (.int (v4)), some (.int (v5))], [], h) = some (some (.int (r)), h) := by
  unfold p16_j37 at hp
  refine e_iinc (ls2 := [some (va_rf (a0)), some (.int (a1)), some (.int (a2)), some (.int (a3)), some (.int (v4)), some (.int ((v5) + 1))]) f16_37 (by decide) rfl rfl ?_
  refine e_goto f16_40 ?_
  refine ex_weak (ls := [some (va_rf (a0)), some (.int (a1)), some (.int (a2)), some (.int (a3)), some (.int (v4)), some (.int ((v5) + 1))]) (le2_ok ⟨Or.inr rfl, Or.inr rfl, Or.inr rfl, Or.inr rfl, Or.inr rfl, Or.inr rfl, trivial⟩) ?_
  exact hK6 (v4) ((v5) + 1) _ hp
set_option maxRecDepth 100000 in
set_option maxHeartbeats 4000000 in
theorem p16_L6_ok (d : Nat) (F : Nat) (a0 : Option Nat) (a1 : Int32) (a2 : Int32) (a3 : Int32) (h : HS) (w : WF h)  : ∀ (n : Nat) (v4 : Int32) (v5 : Int32) (r : Int32), p16_L6 F a0 a1 a2 a3 n h v4 v5 = some r → ex (d + 1) 16 (6, [some (va_rf (a0)), some (.int (a1)), some (.int (a2)), some (.int (a3)), some (.int (v4)), some (.int (v5))], [], h) = some (some (.int (r)), h) := by
  intro n
  induction n with
  | zero => intro v4 v5 r hp; cases hp
  | succ n ih =>
    intro v4 v5 r hp
    unfold p16_L6 at hp
    refine e_iload f16_6 rfl ?_
    refine e_iload_n f16_8 rfl ?_
    by_cases hc1 : (v5) < ((a1) : Int32)
    · rw [if_pos hc1] at hp
      refine e_icmp_ge_f f16_9 hc1 ?_
      refine e_qload_n f16_12 rfl ?_
      refine e_iload f16_13 rfl ?_
      obtain ⟨o2, ho3, hp⟩ := bind_some hp
      try dsimp only at hp
      rw [ho3]
      by_cases hg4 : hT (h) (o2) = 27
      rotate_left
      · rw [if_neg hg4] at hp; cases hp
      rw [if_pos hg4] at hp
      by_cases hg5 : (v5) < (0 : Int32) ∨ hN (h) (o2) ≤ (v5).toNatClampNeg
      · rw [if_pos hg5] at hp; cases hp
      rw [if_neg hg5] at hp
      refine e_aaload f16_15 (Or.inr (Or.inr (Or.inr hg4))) rfl hg5 ?_
      obtain ⟨o6, ho7, hp⟩ := bind_some hp
      try dsimp only at hp
      rw [ho7]
      by_cases hg8 : hT (h) (o6) = 5
      rotate_left
      · rw [if_neg hg8] at hp; cases hp
      rw [if_pos hg8] at hp
      refine e_getI f16_16 hg8 (by decide) ?_
      refine e_iload_n f16_19 rfl ?_
      by_cases hc9 : (hI (h) (o6) 3) = ((a2) : Int32)
      · rw [if_pos hc9] at hp
        refine e_icmp_ne_f f16_20 hc9 ?_
        refine e_aload_n f16_23 rfl ?_
        refine e_iload f16_24 rfl ?_
        by_cases hg10 : (v5) < (0 : Int32) ∨ hN (h) (o2) ≤ (v5).toNatClampNeg
        · rw [if_pos hg10] at hp; cases hp
        rw [if_neg hg10] at hp
        refine e_aaload f16_26 (Or.inr (Or.inr (Or.inr hg4))) rfl hg10 ?_
        refine e_iload_n f16_27 rfl ?_
        obtain ⟨o11, ho12, hp⟩ := bind_some hp
        try dsimp only at hp
        rw [ho12]
        by_cases hg13 : hT (h) (o11) = 5
        rotate_left
        · rw [if_neg hg13] at hp; cases hp
        rw [if_pos hg13] at hp
        obtain ⟨r14, hr15, hp⟩ := bind_some hp
        try dsimp only at hp
        refine e_callV (st := []) (o := o11) (as := [.int (a3)]) f16_28 (by decide) rfl rfl (Nat.le_of_ble_eq_true rfl) hg13 (Nat.le_of_ble_eq_true rfl) (p69_ok d (h) w (o11) (a3) hg13 r14 hr15) ?_
        show ex _ 16 (31, [some (.ref (o2)), some (.int (a1)), some (.int (a2)), some (.int (a3)), some (.int (v4)), some (.int (v5))], [.int (r14)], h) = _
        by_cases hc16 : (r14) = (0 : Int32)
        · rw [if_pos hc16] at hp
          refine e_if_eq_t f16_31 hc16 ?_
          refine ex_weak (ls := [some (va_rf (a0)), some (.int (a1)), some (.int (a2)), some (.int (a3)), some (.int (v4)), some (.int (v5))]) (le2_ok ⟨Or.inr (congrArg (fun z => some (va_rf z)) ho3), Or.inr rfl, Or.inr rfl, Or.inr rfl, Or.inr rfl, Or.inr rfl, trivial⟩) ?_
          exact p16_j37_ok d F a0 a1 a2 a3 ((p16_L6 F a0 a1 a2 a3 n h)) (h) (w) (ih) (v4) (v5) _ hp
        · rw [if_neg hc16] at hp
          refine e_if_eq_f f16_31 hc16 ?_
          refine e_iinc (ls2 := [some (.ref (o2)), some (.int (a1)), some (.int (a2)), some (.int (a3)), some (.int ((v4) + 1)), some (.int (v5))]) f16_34 (by decide) rfl rfl ?_
          refine ex_weak (ls := [some (va_rf (a0)), some (.int (a1)), some (.int (a2)), some (.int (a3)), some (.int ((v4) + 1)), some (.int (v5))]) (le2_ok ⟨Or.inr (congrArg (fun z => some (va_rf z)) ho3), Or.inr rfl, Or.inr rfl, Or.inr rfl, Or.inr rfl, Or.inr rfl, trivial⟩) ?_
          exact p16_j37_ok d F a0 a1 a2 a3 ((p16_L6 F a0 a1 a2 a3 n h)) (h) (w) (ih) ((v4) + 1) (v5) _ hp
      · rw [if_neg hc9] at hp
        refine e_icmp_ne_t f16_20 hc9 ?_
        refine ex_weak (ls := [some (va_rf (a0)), some (.int (a1)), some (.int (a2)), some (.int (a3)), some (.int (v4)), some (.int (v5))]) (le2_ok ⟨Or.inr (congrArg (fun z => some (va_rf z)) ho3), Or.inr rfl, Or.inr rfl, Or.inr rfl, Or.inr rfl, Or.inr rfl, trivial⟩) ?_
        exact p16_j37_ok d F a0 a1 a2 a3 ((p16_L6 F a0 a1 a2 a3 n h)) (h) (w) (ih) (v4) (v5) _ hp
    · rw [if_neg hc1] at hp
      refine e_icmp_ge_t f16_9 hc1 ?_
      refine e_iload f16_43 rfl ?_
      have hp := Option.some.inj hp
      subst hp
      exact e_ireturn f16_45 (Or.inl rfl)
set_option maxRecDepth 100000 in
set_option maxHeartbeats 4000000 in
theorem p16_ok (d : Nat) (F : Nat) (h : HS) (w : WF h) (a0 : Option Nat) (a1 : Int32) (a2 : Int32) (a3 : Int32) (r : Int32) (hp : p16 F h a0 a1 a2 a3 = some r) : ex (d + 1) 16 (ent 16 [va_rf (a0), .int (a1), .int (a2), .int (a3)] h) = some (some (.int (r)), h) := by
  rw [show ent 16 [va_rf (a0), .int (a1), .int (a2), .int (a3)] h = (0, [some (va_rf (a0)), some (.int (a1)), some (.int (a2)), some (.int (a3)), none, none], [], h) from by cases a0 <;> rfl]
  refine ex_weak (ls := [some (va_rf (a0)), some (.int (a1)), some (.int (a2)), some (.int (a3)), none, none]) (le2_ok ⟨Or.inr rfl, Or.inr rfl, Or.inr rfl, Or.inr rfl, Or.inr rfl, Or.inr rfl, trivial⟩) ?_
  unfold p16 at hp
  refine e_iconst (v := 0) f16_0 (by decide) ?_
  refine e_istore (ls2 := [some (va_rf (a0)), some (.int (a1)), some (.int (a2)), some (.int (a3)), some (.int (0)), none]) f16_1 (Nat.le_of_ble_eq_true rfl) rfl ?_
  refine e_iconst (v := 0) f16_3 (by decide) ?_
  refine e_istore (ls2 := [some (va_rf (a0)), some (.int (a1)), some (.int (a2)), some (.int (a3)), some (.int (0)), some (.int (0))]) f16_4 (Nat.le_of_ble_eq_true rfl) rfl ?_
  refine ex_weak (ls := [some (va_rf (a0)), some (.int (a1)), some (.int (a2)), some (.int (a3)), some (.int (0)), some (.int (0))]) (le2_ok ⟨Or.inr rfl, Or.inr rfl, Or.inr rfl, Or.inr rfl, Or.inr rfl, Or.inr rfl, trivial⟩) ?_
  exact p16_L6_ok d F a0 a1 a2 a3 (h) (w) F (0) (0) _ hp
theorem f14_0 : fetch 14 0 = some (.aload_n 0, 0, 0, 0) := rfl
theorem f14_1 : fetch 14 1 = some (.getfield 24, 0, 8, 2) := rfl
theorem f14_4 : fetch 14 4 = some (.aload_n 0, 0, 0, 0) := rfl
theorem f14_5 : fetch 14 5 = some (.getfield 48, 0, 3, 0) := rfl
theorem f14_8 : fetch 14 8 = some (.iload_n 1, 0, 0, 0) := rfl
theorem f14_9 : fetch 14 9 = some (.iload_n 2, 0, 0, 0) := rfl
theorem f14_10 : fetch 14 10 = some (.invokestatic 89, 16, 4, 1) := rfl
theorem f14_13 : fetch 14 13 = some (.ireturn, 0, 0, 0) := rfl
set_option maxRecDepth 100000 in
set_option maxHeartbeats 4000000 in
theorem p14_ok (d : Nat) (F : Nat) (h : HS) (w : WF h) (a0 : Int32) (a1 : Int32) (r : Int32) (hp : p14 F h a0 a1 = some r) : ex (d + 2) 14 (ent 14 [.ref (50), .int (a0), .int (a1)] h) = some (some (.int (r)), h) := by
  rw [show ent 14 [.ref (50), .int (a0), .int (a1)] h = (0, [some (.ref (50)), some (.int (a0)), some (.int (a1))], [], h) from by  rfl]
  refine ex_weak (ls := [some (.ref (50)), some (.int (a0)), some (.int (a1))]) (le2_ok ⟨Or.inr rfl, Or.inr rfl, Or.inr rfl, trivial⟩) ?_
  unfold p14 at hp
  refine e_aload_n f14_0 rfl ?_
  refine e_getR f14_1 (WF.t w 50 (by decide)) rfl (WF.r (q := 54) w 50 8 (by decide)) ?_
  refine e_aload_n f14_4 rfl ?_
  refine e_getI f14_5 (WF.t w 50 (by decide)) (by decide) ?_
  refine e_iload_n f14_8 rfl ?_
  refine e_iload_n f14_9 rfl ?_
  obtain ⟨r1, hr2, hp⟩ := bind_some hp
  try dsimp only at hp
  refine e_callS (st := []) (as := [.ref (54), .int (hI (h) (50) 3), .int (a0), .int (a1)]) f14_10 (by decide) rfl rfl (Nat.le_of_ble_eq_true rfl) (Nat.le_of_ble_eq_true rfl) (p16_ok d F (h) w (some (54)) (hI (h) (50) 3) (a0) (a1) r1 hr2) ?_
  show ex _ 14 (13, [some (.ref (50)), some (.int (a0)), some (.int (a1))], [.int (r1)], h) = _
  have hp := Option.some.inj hp
  subst hp
  exact e_ireturn f14_13 (Or.inl rfl)
theorem f15_0 : fetch 15 0 = some (.aload_n 0, 0, 0, 0) := rfl
theorem f15_1 : fetch 15 1 = some (.getfield 27, 0, 9, 2) := rfl
theorem f15_4 : fetch 15 4 = some (.aload_n 0, 0, 0, 0) := rfl
theorem f15_5 : fetch 15 5 = some (.getfield 51, 0, 4, 0) := rfl
theorem f15_8 : fetch 15 8 = some (.iload_n 1, 0, 0, 0) := rfl
theorem f15_9 : fetch 15 9 = some (.iload_n 2, 0, 0, 0) := rfl
theorem f15_10 : fetch 15 10 = some (.invokestatic 89, 16, 4, 1) := rfl
theorem f15_13 : fetch 15 13 = some (.ireturn, 0, 0, 0) := rfl
set_option maxRecDepth 100000 in
set_option maxHeartbeats 4000000 in
theorem p15_ok (d : Nat) (F : Nat) (h : HS) (w : WF h) (a0 : Int32) (a1 : Int32) (r : Int32) (hp : p15 F h a0 a1 = some r) : ex (d + 2) 15 (ent 15 [.ref (50), .int (a0), .int (a1)] h) = some (some (.int (r)), h) := by
  rw [show ent 15 [.ref (50), .int (a0), .int (a1)] h = (0, [some (.ref (50)), some (.int (a0)), some (.int (a1))], [], h) from by  rfl]
  refine ex_weak (ls := [some (.ref (50)), some (.int (a0)), some (.int (a1))]) (le2_ok ⟨Or.inr rfl, Or.inr rfl, Or.inr rfl, trivial⟩) ?_
  unfold p15 at hp
  refine e_aload_n f15_0 rfl ?_
  refine e_getR f15_1 (WF.t w 50 (by decide)) rfl (WF.r (q := 55) w 50 9 (by decide)) ?_
  refine e_aload_n f15_4 rfl ?_
  refine e_getI f15_5 (WF.t w 50 (by decide)) (by decide) ?_
  refine e_iload_n f15_8 rfl ?_
  refine e_iload_n f15_9 rfl ?_
  obtain ⟨r1, hr2, hp⟩ := bind_some hp
  try dsimp only at hp
  refine e_callS (st := []) (as := [.ref (55), .int (hI (h) (50) 4), .int (a0), .int (a1)]) f15_10 (by decide) rfl rfl (Nat.le_of_ble_eq_true rfl) (Nat.le_of_ble_eq_true rfl) (p16_ok d F (h) w (some (55)) (hI (h) (50) 4) (a0) (a1) r1 hr2) ?_
  show ex _ 15 (13, [some (.ref (50)), some (.int (a0)), some (.int (a1))], [.int (r1)], h) = _
  have hp := Option.some.inj hp
  subst hp
  exact e_ireturn f15_13 (Or.inl rfl)
theorem f169_0 : fetch 169 0 = some (.iconst 0, 0, 0, 0) := rfl
theorem f169_1 : fetch 169 1 = some (.istore_n 3, 0, 0, 0) := rfl
theorem f169_2 : fetch 169 2 = some (.iconst 0, 0, 0, 0) := rfl
theorem f169_3 : fetch 169 3 = some (.istore 4, 0, 0, 0) := rfl
theorem f169_5 : fetch 169 5 = some (.iload 4, 0, 0, 0) := rfl
theorem f169_7 : fetch 169 7 = some (.bipush 64, 0, 0, 0) := rfl
theorem f169_9 : fetch 169 9 = some (.if_icmp .ge 31, 40, 0, 0) := rfl
theorem f169_12 : fetch 169 12 = some (.lload_n 0, 0, 0, 0) := rfl
theorem f169_13 : fetch 169 13 = some (.iload 4, 0, 0, 0) := rfl
theorem f169_15 : fetch 169 15 = some (.lushr, 0, 0, 0) := rfl
theorem f169_16 : fetch 169 16 = some (.lconst 1, 0, 0, 0) := rfl
theorem f169_17 : fetch 169 17 = some (.land, 0, 0, 0) := rfl
theorem f169_18 : fetch 169 18 = some (.lconst 0, 0, 0, 0) := rfl
theorem f169_19 : fetch 169 19 = some (.lcmp, 0, 0, 0) := rfl
theorem f169_20 : fetch 169 20 = some (.ifCond .eq 14, 34, 0, 0) := rfl
theorem f169_23 : fetch 169 23 = some (.iload_n 3, 0, 0, 0) := rfl
theorem f169_24 : fetch 169 24 = some (.iload_n 2, 0, 0, 0) := rfl
theorem f169_25 : fetch 169 25 = some (.if_icmp .ne 6, 31, 0, 0) := rfl
theorem f169_28 : fetch 169 28 = some (.iload 4, 0, 0, 0) := rfl
theorem f169_30 : fetch 169 30 = some (.ireturn, 0, 0, 0) := rfl
theorem f169_31 : fetch 169 31 = some (.iinc 3 1, 0, 0, 0) := rfl
theorem f169_34 : fetch 169 34 = some (.iinc 4 1, 0, 0, 0) := rfl
theorem f169_37 : fetch 169 37 = some (.goto (-32), 5, 0, 0) := rfl
theorem f169_40 : fetch 169 40 = some (.iconst (-1), 0, 0, 0) := rfl
theorem f169_41 : fetch 169 41 = some (.ireturn, 0, 0, 0) := rfl
set_option maxRecDepth 100000 in
set_option maxHeartbeats 4000000 in
theorem p169_j34_ok (d : Nat) (F : Nat) (a0 : Int64) (a1 : Int32) (K5 : Int32 → Int32 → Option (Int32)) (h : HS) (w : WF h) (hK5 : ∀ (u3 : Int32) (u4 : Int32) (r : Int32), K5 u3 u4 = some r → ex (d + 0) 169 (5, [some (.long (a0)), none, some (.int (a1)), some (.int (u3)), some (.int (u4))], [], h) = some (some (.int (r)), h)) (v3 : Int32) (v4 : Int32) (r : Int32) (hp : p169_j34 F a0 a1 K5 h v3 v4 = some r) : ex (d + 0) 169 (34, [some (.long (a0)), none, some (.int (a1)), some (.int (v3)), some (.int (v4))], [], h) = some (some (.int (r)), h) := by
  unfold p169_j34 at hp
  refine e_iinc (ls2 := [some (.long (a0)), none, some (.int (a1)), some (.int (v3)), some (.int ((v4) + 1))]) f169_34 (by decide) rfl rfl ?_
  refine e_goto f169_37 ?_
  refine ex_weak (ls := [some (.long (a0)), none, some (.int (a1)), some (.int (v3)), some (.int ((v4) + 1))]) (le2_ok ⟨Or.inr rfl, Or.inl rfl, Or.inr rfl, Or.inr rfl, Or.inr rfl, trivial⟩) ?_
  exact hK5 (v3) ((v4) + 1) _ hp
set_option maxRecDepth 100000 in
set_option maxHeartbeats 4000000 in
theorem p169_L5_ok (d : Nat) (F : Nat) (a0 : Int64) (a1 : Int32) (h : HS) (w : WF h)  : ∀ (n : Nat) (v3 : Int32) (v4 : Int32) (r : Int32), p169_L5 F a0 a1 n h v3 v4 = some r → ex (d + 0) 169 (5, [some (.long (a0)), none, some (.int (a1)), some (.int (v3)), some (.int (v4))], [], h) = some (some (.int (r)), h) := by
  intro n
  induction n with
  | zero => intro v3 v4 r hp; cases hp
  | succ n ih =>
    intro v3 v4 r hp
    unfold p169_L5 at hp
    refine e_iload f169_5 rfl ?_
    refine e_bipush (v := 64) f169_7 (by decide) ?_
    by_cases hc1 : (v4) < ((64) : Int32)
    · rw [if_pos hc1] at hp
      refine e_icmp_ge_f f169_9 hc1 ?_
      refine e_lload_n f169_12 rfl ?_
      refine e_iload f169_13 rfl ?_
      refine e_lushr f169_15 ?_
      refine e_lconst (v := 1) f169_16 (by decide) ?_
      refine e_land f169_17 ?_
      refine e_lconst (v := 0) f169_18 (by decide) ?_
      refine e_lcmp f169_19 ?_
      by_cases hc2 : (lg_cmp ((((a0).toUInt64 >>> ((v4).toInt64.toUInt64 &&& Int64.toUInt64 63)).toInt64) &&& ((1 : Int64))) ((0 : Int64))) = (0 : Int32)
      · rw [if_pos hc2] at hp
        refine e_if_eq_t f169_20 hc2 ?_
        refine ex_weak (ls := [some (.long (a0)), none, some (.int (a1)), some (.int (v3)), some (.int (v4))]) (le2_ok ⟨Or.inr rfl, Or.inl rfl, Or.inr rfl, Or.inr rfl, Or.inr rfl, trivial⟩) ?_
        exact p169_j34_ok d F a0 a1 ((p169_L5 F a0 a1 n h)) (h) (w) (ih) (v3) (v4) _ hp
      · rw [if_neg hc2] at hp
        refine e_if_eq_f f169_20 hc2 ?_
        refine e_iload_n f169_23 rfl ?_
        refine e_iload_n f169_24 rfl ?_
        by_cases hc3 : (v3) = ((a1) : Int32)
        · rw [if_pos hc3] at hp
          refine e_icmp_ne_f f169_25 hc3 ?_
          refine e_iload f169_28 rfl ?_
          have hp := Option.some.inj hp
          subst hp
          exact e_ireturn f169_30 (Or.inl rfl)
        · rw [if_neg hc3] at hp
          refine e_icmp_ne_t f169_25 hc3 ?_
          refine e_iinc (ls2 := [some (.long (a0)), none, some (.int (a1)), some (.int ((v3) + 1)), some (.int (v4))]) f169_31 (by decide) rfl rfl ?_
          refine ex_weak (ls := [some (.long (a0)), none, some (.int (a1)), some (.int ((v3) + 1)), some (.int (v4))]) (le2_ok ⟨Or.inr rfl, Or.inl rfl, Or.inr rfl, Or.inr rfl, Or.inr rfl, trivial⟩) ?_
          exact p169_j34_ok d F a0 a1 ((p169_L5 F a0 a1 n h)) (h) (w) (ih) ((v3) + 1) (v4) _ hp
    · rw [if_neg hc1] at hp
      refine e_icmp_ge_t f169_9 hc1 ?_
      refine e_iconst (v := -1) f169_40 (by decide) ?_
      have hp := Option.some.inj hp
      subst hp
      exact e_ireturn f169_41 (Or.inl rfl)
set_option maxRecDepth 100000 in
set_option maxHeartbeats 4000000 in
theorem p169_ok (d : Nat) (F : Nat) (h : HS) (w : WF h) (a0 : Int64) (a1 : Int32) (r : Int32) (hp : p169 F h a0 a1 = some r) : ex (d + 0) 169 (ent 169 [.long (a0), .int (a1)] h) = some (some (.int (r)), h) := by
  rw [show ent 169 [.long (a0), .int (a1)] h = (0, [some (.long (a0)), none, some (.int (a1)), none, none], [], h) from by  rfl]
  refine ex_weak (ls := [some (.long (a0)), none, some (.int (a1)), none, none]) (le2_ok ⟨Or.inr rfl, Or.inr rfl, Or.inr rfl, Or.inr rfl, Or.inr rfl, trivial⟩) ?_
  unfold p169 at hp
  refine e_iconst (v := 0) f169_0 (by decide) ?_
  refine e_istore_n (ls2 := [some (.long (a0)), none, some (.int (a1)), some (.int (0)), none]) f169_1 (Nat.le_of_ble_eq_true rfl) rfl ?_
  refine e_iconst (v := 0) f169_2 (by decide) ?_
  refine e_istore (ls2 := [some (.long (a0)), none, some (.int (a1)), some (.int (0)), some (.int (0))]) f169_3 (Nat.le_of_ble_eq_true rfl) rfl ?_
  refine ex_weak (ls := [some (.long (a0)), none, some (.int (a1)), some (.int (0)), some (.int (0))]) (le2_ok ⟨Or.inr rfl, Or.inl rfl, Or.inr rfl, Or.inr rfl, Or.inr rfl, trivial⟩) ?_
  exact p169_L5_ok d F a0 a1 (h) (w) F (0) (0) _ hp
theorem f307_0 : fetch 307 0 = some (.lload_n 0, 0, 0, 0) := rfl
theorem f307_1 : fetch 307 1 = some (.lload_n 0, 0, 0, 0) := rfl
theorem f307_2 : fetch 307 2 = some (.iconst 1, 0, 0, 0) := rfl
theorem f307_3 : fetch 307 3 = some (.lushr, 0, 0, 0) := rfl
theorem f307_4 : fetch 307 4 = some (.ldc2_w 314, 0, 0, 6148914691236517205) := rfl
theorem f307_7 : fetch 307 7 = some (.land, 0, 0, 0) := rfl
theorem f307_8 : fetch 307 8 = some (.lsub, 0, 0, 0) := rfl
theorem f307_9 : fetch 307 9 = some (.lstore_n 0, 0, 0, 0) := rfl
theorem f307_10 : fetch 307 10 = some (.lload_n 0, 0, 0, 0) := rfl
theorem f307_11 : fetch 307 11 = some (.ldc2_w 316, 0, 0, 3689348814741910323) := rfl
theorem f307_14 : fetch 307 14 = some (.land, 0, 0, 0) := rfl
theorem f307_15 : fetch 307 15 = some (.lload_n 0, 0, 0, 0) := rfl
theorem f307_16 : fetch 307 16 = some (.iconst 2, 0, 0, 0) := rfl
theorem f307_17 : fetch 307 17 = some (.lushr, 0, 0, 0) := rfl
theorem f307_18 : fetch 307 18 = some (.ldc2_w 316, 0, 0, 3689348814741910323) := rfl
theorem f307_21 : fetch 307 21 = some (.land, 0, 0, 0) := rfl
theorem f307_22 : fetch 307 22 = some (.ladd, 0, 0, 0) := rfl
theorem f307_23 : fetch 307 23 = some (.lstore_n 0, 0, 0, 0) := rfl
theorem f307_24 : fetch 307 24 = some (.lload_n 0, 0, 0, 0) := rfl
theorem f307_25 : fetch 307 25 = some (.lload_n 0, 0, 0, 0) := rfl
theorem f307_26 : fetch 307 26 = some (.iconst 4, 0, 0, 0) := rfl
theorem f307_27 : fetch 307 27 = some (.lushr, 0, 0, 0) := rfl
theorem f307_28 : fetch 307 28 = some (.ladd, 0, 0, 0) := rfl
theorem f307_29 : fetch 307 29 = some (.ldc2_w 318, 0, 0, 1085102592571150095) := rfl
theorem f307_32 : fetch 307 32 = some (.land, 0, 0, 0) := rfl
theorem f307_33 : fetch 307 33 = some (.lstore_n 0, 0, 0, 0) := rfl
theorem f307_34 : fetch 307 34 = some (.lload_n 0, 0, 0, 0) := rfl
theorem f307_35 : fetch 307 35 = some (.lload_n 0, 0, 0, 0) := rfl
theorem f307_36 : fetch 307 36 = some (.bipush 8, 0, 0, 0) := rfl
theorem f307_38 : fetch 307 38 = some (.lushr, 0, 0, 0) := rfl
theorem f307_39 : fetch 307 39 = some (.ladd, 0, 0, 0) := rfl
theorem f307_40 : fetch 307 40 = some (.lstore_n 0, 0, 0, 0) := rfl
theorem f307_41 : fetch 307 41 = some (.lload_n 0, 0, 0, 0) := rfl
theorem f307_42 : fetch 307 42 = some (.lload_n 0, 0, 0, 0) := rfl
theorem f307_43 : fetch 307 43 = some (.bipush 16, 0, 0, 0) := rfl
theorem f307_45 : fetch 307 45 = some (.lushr, 0, 0, 0) := rfl
theorem f307_46 : fetch 307 46 = some (.ladd, 0, 0, 0) := rfl
theorem f307_47 : fetch 307 47 = some (.lstore_n 0, 0, 0, 0) := rfl
theorem f307_48 : fetch 307 48 = some (.lload_n 0, 0, 0, 0) := rfl
theorem f307_49 : fetch 307 49 = some (.lload_n 0, 0, 0, 0) := rfl
theorem f307_50 : fetch 307 50 = some (.bipush 32, 0, 0, 0) := rfl
theorem f307_52 : fetch 307 52 = some (.lushr, 0, 0, 0) := rfl
theorem f307_53 : fetch 307 53 = some (.ladd, 0, 0, 0) := rfl
theorem f307_54 : fetch 307 54 = some (.lstore_n 0, 0, 0, 0) := rfl
theorem f307_55 : fetch 307 55 = some (.lload_n 0, 0, 0, 0) := rfl
theorem f307_56 : fetch 307 56 = some (.l2i, 0, 0, 0) := rfl
theorem f307_57 : fetch 307 57 = some (.bipush 127, 0, 0, 0) := rfl
theorem f307_59 : fetch 307 59 = some (.iand, 0, 0, 0) := rfl
theorem f307_60 : fetch 307 60 = some (.ireturn, 0, 0, 0) := rfl
set_option maxRecDepth 100000 in
set_option maxHeartbeats 4000000 in
theorem p307_ok (d : Nat) (h : HS) (w : WF h) (a0 : Int64) (r : Int32) (hp : p307 h a0 = some r) : ex (d + 0) 307 (ent 307 [.long (a0)] h) = some (some (.int (r)), h) := by
  rw [show ent 307 [.long (a0)] h = (0, [some (.long (a0)), none], [], h) from by  rfl]
  refine ex_weak (ls := [some (.long (a0)), none]) (le2_ok ⟨Or.inr rfl, Or.inr rfl, trivial⟩) ?_
  unfold p307 at hp
  refine e_lload_n f307_0 rfl ?_
  refine e_lload_n f307_1 rfl ?_
  refine e_iconst (v := 1) f307_2 (by decide) ?_
  refine e_lushr f307_3 ?_
  refine e_ldc2 (v := 6148914691236517205) f307_4 (by decide) ?_
  refine e_land f307_7 ?_
  refine e_lsub f307_8 ?_
  refine e_lstore_n (ls2 := [some (.long ((a0) - ((((a0).toUInt64 >>> ((1 : Int32).toInt64.toUInt64 &&& Int64.toUInt64 63)).toInt64) &&& ((6148914691236517205 : Int64))))), none]) f307_9 (Nat.le_of_ble_eq_true rfl) rfl ?_
  refine e_lload_n f307_10 rfl ?_
  refine e_ldc2 (v := 3689348814741910323) f307_11 (by decide) ?_
  refine e_land f307_14 ?_
  refine e_lload_n f307_15 rfl ?_
  refine e_iconst (v := 2) f307_16 (by decide) ?_
  refine e_lushr f307_17 ?_
  refine e_ldc2 (v := 3689348814741910323) f307_18 (by decide) ?_
  refine e_land f307_21 ?_
  refine e_ladd f307_22 ?_
  refine e_lstore_n (ls2 := [some (.long ((((a0) - ((((a0).toUInt64 >>> ((1 : Int32).toInt64.toUInt64 &&& Int64.toUInt64 63)).toInt64) &&& ((6148914691236517205 : Int64)))) &&& ((3689348814741910323 : Int64))) + (((((a0) - ((((a0).toUInt64 >>> ((1 : Int32).toInt64.toUInt64 &&& Int64.toUInt64 63)).toInt64) &&& ((6148914691236517205 : Int64)))).toUInt64 >>> ((2 : Int32).toInt64.toUInt64 &&& Int64.toUInt64 63)).toInt64) &&& ((3689348814741910323 : Int64))))), none]) f307_23 (Nat.le_of_ble_eq_true rfl) rfl ?_
  refine e_lload_n f307_24 rfl ?_
  refine e_lload_n f307_25 rfl ?_
  refine e_iconst (v := 4) f307_26 (by decide) ?_
  refine e_lushr f307_27 ?_
  refine e_ladd f307_28 ?_
  refine e_ldc2 (v := 1085102592571150095) f307_29 (by decide) ?_
  refine e_land f307_32 ?_
  refine e_lstore_n (ls2 := [some (.long ((((((a0) - ((((a0).toUInt64 >>> ((1 : Int32).toInt64.toUInt64 &&& Int64.toUInt64 63)).toInt64) &&& ((6148914691236517205 : Int64)))) &&& ((3689348814741910323 : Int64))) + (((((a0) - ((((a0).toUInt64 >>> ((1 : Int32).toInt64.toUInt64 &&& Int64.toUInt64 63)).toInt64) &&& ((6148914691236517205 : Int64)))).toUInt64 >>> ((2 : Int32).toInt64.toUInt64 &&& Int64.toUInt64 63)).toInt64) &&& ((3689348814741910323 : Int64)))) + ((((((a0) - ((((a0).toUInt64 >>> ((1 : Int32).toInt64.toUInt64 &&& Int64.toUInt64 63)).toInt64) &&& ((6148914691236517205 : Int64)))) &&& ((3689348814741910323 : Int64))) + (((((a0) - ((((a0).toUInt64 >>> ((1 : Int32).toInt64.toUInt64 &&& Int64.toUInt64 63)).toInt64) &&& ((6148914691236517205 : Int64)))).toUInt64 >>> ((2 : Int32).toInt64.toUInt64 &&& Int64.toUInt64 63)).toInt64) &&& ((3689348814741910323 : Int64)))).toUInt64 >>> ((4 : Int32).toInt64.toUInt64 &&& Int64.toUInt64 63)).toInt64)) &&& ((1085102592571150095 : Int64)))), none]) f307_33 (Nat.le_of_ble_eq_true rfl) rfl ?_
  refine e_lload_n f307_34 rfl ?_
  refine e_lload_n f307_35 rfl ?_
  refine e_bipush (v := 8) f307_36 (by decide) ?_
  refine e_lushr f307_38 ?_
  refine e_ladd f307_39 ?_
  refine e_lstore_n (ls2 := [some (.long (((((((a0) - ((((a0).toUInt64 >>> ((1 : Int32).toInt64.toUInt64 &&& Int64.toUInt64 63)).toInt64) &&& ((6148914691236517205 : Int64)))) &&& ((3689348814741910323 : Int64))) + (((((a0) - ((((a0).toUInt64 >>> ((1 : Int32).toInt64.toUInt64 &&& Int64.toUInt64 63)).toInt64) &&& ((6148914691236517205 : Int64)))).toUInt64 >>> ((2 : Int32).toInt64.toUInt64 &&& Int64.toUInt64 63)).toInt64) &&& ((3689348814741910323 : Int64)))) + ((((((a0) - ((((a0).toUInt64 >>> ((1 : Int32).toInt64.toUInt64 &&& Int64.toUInt64 63)).toInt64) &&& ((6148914691236517205 : Int64)))) &&& ((3689348814741910323 : Int64))) + (((((a0) - ((((a0).toUInt64 >>> ((1 : Int32).toInt64.toUInt64 &&& Int64.toUInt64 63)).toInt64) &&& ((6148914691236517205 : Int64)))).toUInt64 >>> ((2 : Int32).toInt64.toUInt64 &&& Int64.toUInt64 63)).toInt64) &&& ((3689348814741910323 : Int64)))).toUInt64 >>> ((4 : Int32).toInt64.toUInt64 &&& Int64.toUInt64 63)).toInt64)) &&& ((1085102592571150095 : Int64))) + ((((((((a0) - ((((a0).toUInt64 >>> ((1 : Int32).toInt64.toUInt64 &&& Int64.toUInt64 63)).toInt64) &&& ((6148914691236517205 : Int64)))) &&& ((3689348814741910323 : Int64))) + (((((a0) - ((((a0).toUInt64 >>> ((1 : Int32).toInt64.toUInt64 &&& Int64.toUInt64 63)).toInt64) &&& ((6148914691236517205 : Int64)))).toUInt64 >>> ((2 : Int32).toInt64.toUInt64 &&& Int64.toUInt64 63)).toInt64) &&& ((3689348814741910323 : Int64)))) + ((((((a0) - ((((a0).toUInt64 >>> ((1 : Int32).toInt64.toUInt64 &&& Int64.toUInt64 63)).toInt64) &&& ((6148914691236517205 : Int64)))) &&& ((3689348814741910323 : Int64))) + (((((a0) - ((((a0).toUInt64 >>> ((1 : Int32).toInt64.toUInt64 &&& Int64.toUInt64 63)).toInt64) &&& ((6148914691236517205 : Int64)))).toUInt64 >>> ((2 : Int32).toInt64.toUInt64 &&& Int64.toUInt64 63)).toInt64) &&& ((3689348814741910323 : Int64)))).toUInt64 >>> ((4 : Int32).toInt64.toUInt64 &&& Int64.toUInt64 63)).toInt64)) &&& ((1085102592571150095 : Int64))).toUInt64 >>> ((8 : Int32).toInt64.toUInt64 &&& Int64.toUInt64 63)).toInt64))), none]) f307_40 (Nat.le_of_ble_eq_true rfl) rfl ?_
  refine e_lload_n f307_41 rfl ?_
  refine e_lload_n f307_42 rfl ?_
  refine e_bipush (v := 16) f307_43 (by decide) ?_
  refine e_lushr f307_45 ?_
  refine e_ladd f307_46 ?_
  refine e_lstore_n (ls2 := [some (.long ((((((((a0) - ((((a0).toUInt64 >>> ((1 : Int32).toInt64.toUInt64 &&& Int64.toUInt64 63)).toInt64) &&& ((6148914691236517205 : Int64)))) &&& ((3689348814741910323 : Int64))) + (((((a0) - ((((a0).toUInt64 >>> ((1 : Int32).toInt64.toUInt64 &&& Int64.toUInt64 63)).toInt64) &&& ((6148914691236517205 : Int64)))).toUInt64 >>> ((2 : Int32).toInt64.toUInt64 &&& Int64.toUInt64 63)).toInt64) &&& ((3689348814741910323 : Int64)))) + ((((((a0) - ((((a0).toUInt64 >>> ((1 : Int32).toInt64.toUInt64 &&& Int64.toUInt64 63)).toInt64) &&& ((6148914691236517205 : Int64)))) &&& ((3689348814741910323 : Int64))) + (((((a0) - ((((a0).toUInt64 >>> ((1 : Int32).toInt64.toUInt64 &&& Int64.toUInt64 63)).toInt64) &&& ((6148914691236517205 : Int64)))).toUInt64 >>> ((2 : Int32).toInt64.toUInt64 &&& Int64.toUInt64 63)).toInt64) &&& ((3689348814741910323 : Int64)))).toUInt64 >>> ((4 : Int32).toInt64.toUInt64 &&& Int64.toUInt64 63)).toInt64)) &&& ((1085102592571150095 : Int64))) + ((((((((a0) - ((((a0).toUInt64 >>> ((1 : Int32).toInt64.toUInt64 &&& Int64.toUInt64 63)).toInt64) &&& ((6148914691236517205 : Int64)))) &&& ((3689348814741910323 : Int64))) + (((((a0) - ((((a0).toUInt64 >>> ((1 : Int32).toInt64.toUInt64 &&& Int64.toUInt64 63)).toInt64) &&& ((6148914691236517205 : Int64)))).toUInt64 >>> ((2 : Int32).toInt64.toUInt64 &&& Int64.toUInt64 63)).toInt64) &&& ((3689348814741910323 : Int64)))) + ((((((a0) - ((((a0).toUInt64 >>> ((1 : Int32).toInt64.toUInt64 &&& Int64.toUInt64 63)).toInt64) &&& ((6148914691236517205 : Int64)))) &&& ((3689348814741910323 : Int64))) + (((((a0) - ((((a0).toUInt64 >>> ((1 : Int32).toInt64.toUInt64 &&& Int64.toUInt64 63)).toInt64) &&& ((6148914691236517205 : Int64)))).toUInt64 >>> ((2 : Int32).toInt64.toUInt64 &&& Int64.toUInt64 63)).toInt64) &&& ((3689348814741910323 : Int64)))).toUInt64 >>> ((4 : Int32).toInt64.toUInt64 &&& Int64.toUInt64 63)).toInt64)) &&& ((1085102592571150095 : Int64))).toUInt64 >>> ((8 : Int32).toInt64.toUInt64 &&& Int64.toUInt64 63)).toInt64)) + (((((((((a0) - ((((a0).toUInt64 >>> ((1 : Int32).toInt64.toUInt64 &&& Int64.toUInt64 63)).toInt64) &&& ((6148914691236517205 : Int64)))) &&& ((3689348814741910323 : Int64))) + (((((a0) - ((((a0).toUInt64 >>> ((1 : Int32).toInt64.toUInt64 &&& Int64.toUInt64 63)).toInt64) &&& ((6148914691236517205 : Int64)))).toUInt64 >>> ((2 : Int32).toInt64.toUInt64 &&& Int64.toUInt64 63)).toInt64) &&& ((3689348814741910323 : Int64)))) + ((((((a0) - ((((a0).toUInt64 >>> ((1 : Int32).toInt64.toUInt64 &&& Int64.toUInt64 63)).toInt64) &&& ((6148914691236517205 : Int64)))) &&& ((3689348814741910323 : Int64))) + (((((a0) - ((((a0).toUInt64 >>> ((1 : Int32).toInt64.toUInt64 &&& Int64.toUInt64 63)).toInt64) &&& ((6148914691236517205 : Int64)))).toUInt64 >>> ((2 : Int32).toInt64.toUInt64 &&& Int64.toUInt64 63)).toInt64) &&& ((3689348814741910323 : Int64)))).toUInt64 >>> ((4 : Int32).toInt64.toUInt64 &&& Int64.toUInt64 63)).toInt64)) &&& ((1085102592571150095 : Int64))) + ((((((((a0) - ((((a0).toUInt64 >>> ((1 : Int32).toInt64.toUInt64 &&& Int64.toUInt64 63)).toInt64) &&& ((6148914691236517205 : Int64)))) &&& ((3689348814741910323 : Int64))) + (((((a0) - ((((a0).toUInt64 >>> ((1 : Int32).toInt64.toUInt64 &&& Int64.toUInt64 63)).toInt64) &&& ((6148914691236517205 : Int64)))).toUInt64 >>> ((2 : Int32).toInt64.toUInt64 &&& Int64.toUInt64 63)).toInt64) &&& ((3689348814741910323 : Int64)))) + ((((((a0) - ((((a0).toUInt64 >>> ((1 : Int32).toInt64.toUInt64 &&& Int64.toUInt64 63)).toInt64) &&& ((6148914691236517205 : Int64)))) &&& ((3689348814741910323 : Int64))) + (((((a0) - ((((a0).toUInt64 >>> ((1 : Int32).toInt64.toUInt64 &&& Int64.toUInt64 63)).toInt64) &&& ((6148914691236517205 : Int64)))).toUInt64 >>> ((2 : Int32).toInt64.toUInt64 &&& Int64.toUInt64 63)).toInt64) &&& ((3689348814741910323 : Int64)))).toUInt64 >>> ((4 : Int32).toInt64.toUInt64 &&& Int64.toUInt64 63)).toInt64)) &&& ((1085102592571150095 : Int64))).toUInt64 >>> ((8 : Int32).toInt64.toUInt64 &&& Int64.toUInt64 63)).toInt64)).toUInt64 >>> ((16 : Int32).toInt64.toUInt64 &&& Int64.toUInt64 63)).toInt64))), none]) f307_47 (Nat.le_of_ble_eq_true rfl) rfl ?_
  refine e_lload_n f307_48 rfl ?_
  refine e_lload_n f307_49 rfl ?_
  refine e_bipush (v := 32) f307_50 (by decide) ?_
  refine e_lushr f307_52 ?_
  refine e_ladd f307_53 ?_
  refine e_lstore_n (ls2 := [some (.long (((((((((a0) - ((((a0).toUInt64 >>> ((1 : Int32).toInt64.toUInt64 &&& Int64.toUInt64 63)).toInt64) &&& ((6148914691236517205 : Int64)))) &&& ((3689348814741910323 : Int64))) + (((((a0) - ((((a0).toUInt64 >>> ((1 : Int32).toInt64.toUInt64 &&& Int64.toUInt64 63)).toInt64) &&& ((6148914691236517205 : Int64)))).toUInt64 >>> ((2 : Int32).toInt64.toUInt64 &&& Int64.toUInt64 63)).toInt64) &&& ((3689348814741910323 : Int64)))) + ((((((a0) - ((((a0).toUInt64 >>> ((1 : Int32).toInt64.toUInt64 &&& Int64.toUInt64 63)).toInt64) &&& ((6148914691236517205 : Int64)))) &&& ((3689348814741910323 : Int64))) + (((((a0) - ((((a0).toUInt64 >>> ((1 : Int32).toInt64.toUInt64 &&& Int64.toUInt64 63)).toInt64) &&& ((6148914691236517205 : Int64)))).toUInt64 >>> ((2 : Int32).toInt64.toUInt64 &&& Int64.toUInt64 63)).toInt64) &&& ((3689348814741910323 : Int64)))).toUInt64 >>> ((4 : Int32).toInt64.toUInt64 &&& Int64.toUInt64 63)).toInt64)) &&& ((1085102592571150095 : Int64))) + ((((((((a0) - ((((a0).toUInt64 >>> ((1 : Int32).toInt64.toUInt64 &&& Int64.toUInt64 63)).toInt64) &&& ((6148914691236517205 : Int64)))) &&& ((3689348814741910323 : Int64))) + (((((a0) - ((((a0).toUInt64 >>> ((1 : Int32).toInt64.toUInt64 &&& Int64.toUInt64 63)).toInt64) &&& ((6148914691236517205 : Int64)))).toUInt64 >>> ((2 : Int32).toInt64.toUInt64 &&& Int64.toUInt64 63)).toInt64) &&& ((3689348814741910323 : Int64)))) + ((((((a0) - ((((a0).toUInt64 >>> ((1 : Int32).toInt64.toUInt64 &&& Int64.toUInt64 63)).toInt64) &&& ((6148914691236517205 : Int64)))) &&& ((3689348814741910323 : Int64))) + (((((a0) - ((((a0).toUInt64 >>> ((1 : Int32).toInt64.toUInt64 &&& Int64.toUInt64 63)).toInt64) &&& ((6148914691236517205 : Int64)))).toUInt64 >>> ((2 : Int32).toInt64.toUInt64 &&& Int64.toUInt64 63)).toInt64) &&& ((3689348814741910323 : Int64)))).toUInt64 >>> ((4 : Int32).toInt64.toUInt64 &&& Int64.toUInt64 63)).toInt64)) &&& ((1085102592571150095 : Int64))).toUInt64 >>> ((8 : Int32).toInt64.toUInt64 &&& Int64.toUInt64 63)).toInt64)) + (((((((((a0) - ((((a0).toUInt64 >>> ((1 : Int32).toInt64.toUInt64 &&& Int64.toUInt64 63)).toInt64) &&& ((6148914691236517205 : Int64)))) &&& ((3689348814741910323 : Int64))) + (((((a0) - ((((a0).toUInt64 >>> ((1 : Int32).toInt64.toUInt64 &&& Int64.toUInt64 63)).toInt64) &&& ((6148914691236517205 : Int64)))).toUInt64 >>> ((2 : Int32).toInt64.toUInt64 &&& Int64.toUInt64 63)).toInt64) &&& ((3689348814741910323 : Int64)))) + ((((((a0) - ((((a0).toUInt64 >>> ((1 : Int32).toInt64.toUInt64 &&& Int64.toUInt64 63)).toInt64) &&& ((6148914691236517205 : Int64)))) &&& ((3689348814741910323 : Int64))) + (((((a0) - ((((a0).toUInt64 >>> ((1 : Int32).toInt64.toUInt64 &&& Int64.toUInt64 63)).toInt64) &&& ((6148914691236517205 : Int64)))).toUInt64 >>> ((2 : Int32).toInt64.toUInt64 &&& Int64.toUInt64 63)).toInt64) &&& ((3689348814741910323 : Int64)))).toUInt64 >>> ((4 : Int32).toInt64.toUInt64 &&& Int64.toUInt64 63)).toInt64)) &&& ((1085102592571150095 : Int64))) + ((((((((a0) - ((((a0).toUInt64 >>> ((1 : Int32).toInt64.toUInt64 &&& Int64.toUInt64 63)).toInt64) &&& ((6148914691236517205 : Int64)))) &&& ((3689348814741910323 : Int64))) + (((((a0) - ((((a0).toUInt64 >>> ((1 : Int32).toInt64.toUInt64 &&& Int64.toUInt64 63)).toInt64) &&& ((6148914691236517205 : Int64)))).toUInt64 >>> ((2 : Int32).toInt64.toUInt64 &&& Int64.toUInt64 63)).toInt64) &&& ((3689348814741910323 : Int64)))) + ((((((a0) - ((((a0).toUInt64 >>> ((1 : Int32).toInt64.toUInt64 &&& Int64.toUInt64 63)).toInt64) &&& ((6148914691236517205 : Int64)))) &&& ((3689348814741910323 : Int64))) + (((((a0) - ((((a0).toUInt64 >>> ((1 : Int32).toInt64.toUInt64 &&& Int64.toUInt64 63)).toInt64) &&& ((6148914691236517205 : Int64)))).toUInt64 >>> ((2 : Int32).toInt64.toUInt64 &&& Int64.toUInt64 63)).toInt64) &&& ((3689348814741910323 : Int64)))).toUInt64 >>> ((4 : Int32).toInt64.toUInt64 &&& Int64.toUInt64 63)).toInt64)) &&& ((1085102592571150095 : Int64))).toUInt64 >>> ((8 : Int32).toInt64.toUInt64 &&& Int64.toUInt64 63)).toInt64)).toUInt64 >>> ((16 : Int32).toInt64.toUInt64 &&& Int64.toUInt64 63)).toInt64)) + ((((((((((a0) - ((((a0).toUInt64 >>> ((1 : Int32).toInt64.toUInt64 &&& Int64.toUInt64 63)).toInt64) &&& ((6148914691236517205 : Int64)))) &&& ((3689348814741910323 : Int64))) + (((((a0) - ((((a0).toUInt64 >>> ((1 : Int32).toInt64.toUInt64 &&& Int64.toUInt64 63)).toInt64) &&& ((6148914691236517205 : Int64)))).toUInt64 >>> ((2 : Int32).toInt64.toUInt64 &&& Int64.toUInt64 63)).toInt64) &&& ((3689348814741910323 : Int64)))) + ((((((a0) - ((((a0).toUInt64 >>> ((1 : Int32).toInt64.toUInt64 &&& Int64.toUInt64 63)).toInt64) &&& ((6148914691236517205 : Int64)))) &&& ((3689348814741910323 : Int64))) + (((((a0) - ((((a0).toUInt64 >>> ((1 : Int32).toInt64.toUInt64 &&& Int64.toUInt64 63)).toInt64) &&& ((6148914691236517205 : Int64)))).toUInt64 >>> ((2 : Int32).toInt64.toUInt64 &&& Int64.toUInt64 63)).toInt64) &&& ((3689348814741910323 : Int64)))).toUInt64 >>> ((4 : Int32).toInt64.toUInt64 &&& Int64.toUInt64 63)).toInt64)) &&& ((1085102592571150095 : Int64))) + ((((((((a0) - ((((a0).toUInt64 >>> ((1 : Int32).toInt64.toUInt64 &&& Int64.toUInt64 63)).toInt64) &&& ((6148914691236517205 : Int64)))) &&& ((3689348814741910323 : Int64))) + (((((a0) - ((((a0).toUInt64 >>> ((1 : Int32).toInt64.toUInt64 &&& Int64.toUInt64 63)).toInt64) &&& ((6148914691236517205 : Int64)))).toUInt64 >>> ((2 : Int32).toInt64.toUInt64 &&& Int64.toUInt64 63)).toInt64) &&& ((3689348814741910323 : Int64)))) + ((((((a0) - ((((a0).toUInt64 >>> ((1 : Int32).toInt64.toUInt64 &&& Int64.toUInt64 63)).toInt64) &&& ((6148914691236517205 : Int64)))) &&& ((3689348814741910323 : Int64))) + (((((a0) - ((((a0).toUInt64 >>> ((1 : Int32).toInt64.toUInt64 &&& Int64.toUInt64 63)).toInt64) &&& ((6148914691236517205 : Int64)))).toUInt64 >>> ((2 : Int32).toInt64.toUInt64 &&& Int64.toUInt64 63)).toInt64) &&& ((3689348814741910323 : Int64)))).toUInt64 >>> ((4 : Int32).toInt64.toUInt64 &&& Int64.toUInt64 63)).toInt64)) &&& ((1085102592571150095 : Int64))).toUInt64 >>> ((8 : Int32).toInt64.toUInt64 &&& Int64.toUInt64 63)).toInt64)) + (((((((((a0) - ((((a0).toUInt64 >>> ((1 : Int32).toInt64.toUInt64 &&& Int64.toUInt64 63)).toInt64) &&& ((6148914691236517205 : Int64)))) &&& ((3689348814741910323 : Int64))) + (((((a0) - ((((a0).toUInt64 >>> ((1 : Int32).toInt64.toUInt64 &&& Int64.toUInt64 63)).toInt64) &&& ((6148914691236517205 : Int64)))).toUInt64 >>> ((2 : Int32).toInt64.toUInt64 &&& Int64.toUInt64 63)).toInt64) &&& ((3689348814741910323 : Int64)))) + ((((((a0) - ((((a0).toUInt64 >>> ((1 : Int32).toInt64.toUInt64 &&& Int64.toUInt64 63)).toInt64) &&& ((6148914691236517205 : Int64)))) &&& ((3689348814741910323 : Int64))) + (((((a0) - ((((a0).toUInt64 >>> ((1 : Int32).toInt64.toUInt64 &&& Int64.toUInt64 63)).toInt64) &&& ((6148914691236517205 : Int64)))).toUInt64 >>> ((2 : Int32).toInt64.toUInt64 &&& Int64.toUInt64 63)).toInt64) &&& ((3689348814741910323 : Int64)))).toUInt64 >>> ((4 : Int32).toInt64.toUInt64 &&& Int64.toUInt64 63)).toInt64)) &&& ((1085102592571150095 : Int64))) + ((((((((a0) - ((((a0).toUInt64 >>> ((1 : Int32).toInt64.toUInt64 &&& Int64.toUInt64 63)).toInt64) &&& ((6148914691236517205 : Int64)))) &&& ((3689348814741910323 : Int64))) + (((((a0) - ((((a0).toUInt64 >>> ((1 : Int32).toInt64.toUInt64 &&& Int64.toUInt64 63)).toInt64) &&& ((6148914691236517205 : Int64)))).toUInt64 >>> ((2 : Int32).toInt64.toUInt64 &&& Int64.toUInt64 63)).toInt64) &&& ((3689348814741910323 : Int64)))) + ((((((a0) - ((((a0).toUInt64 >>> ((1 : Int32).toInt64.toUInt64 &&& Int64.toUInt64 63)).toInt64) &&& ((6148914691236517205 : Int64)))) &&& ((3689348814741910323 : Int64))) + (((((a0) - ((((a0).toUInt64 >>> ((1 : Int32).toInt64.toUInt64 &&& Int64.toUInt64 63)).toInt64) &&& ((6148914691236517205 : Int64)))).toUInt64 >>> ((2 : Int32).toInt64.toUInt64 &&& Int64.toUInt64 63)).toInt64) &&& ((3689348814741910323 : Int64)))).toUInt64 >>> ((4 : Int32).toInt64.toUInt64 &&& Int64.toUInt64 63)).toInt64)) &&& ((1085102592571150095 : Int64))).toUInt64 >>> ((8 : Int32).toInt64.toUInt64 &&& Int64.toUInt64 63)).toInt64)).toUInt64 >>> ((16 : Int32).toInt64.toUInt64 &&& Int64.toUInt64 63)).toInt64)).toUInt64 >>> ((32 : Int32).toInt64.toUInt64 &&& Int64.toUInt64 63)).toInt64))), none]) f307_54 (Nat.le_of_ble_eq_true rfl) rfl ?_
  refine e_lload_n f307_55 rfl ?_
  refine e_l2i f307_56 ?_
  refine e_bipush (v := 127) f307_57 (by decide) ?_
  refine e_iand f307_59 ?_
  have hp := Option.some.inj hp
  subst hp
  exact e_ireturn f307_60 (Or.inl rfl)
theorem f17_0 : fetch 17 0 = some (.aload_n 0, 0, 0, 0) := rfl
theorem f17_1 : fetch 17 1 = some (.iload_n 1, 0, 0, 0) := rfl
theorem f17_2 : fetch 17 2 = some (.iload_n 2, 0, 0, 0) := rfl
theorem f17_3 : fetch 17 3 = some (.invokevirtual 93, 14, 2, 0) := rfl
theorem f17_6 : fetch 17 6 = some (.ifCond .ne 5, 11, 0, 0) := rfl
theorem f17_9 : fetch 17 9 = some (.iconst (-1), 0, 0, 0) := rfl
theorem f17_10 : fetch 17 10 = some (.ireturn, 0, 0, 0) := rfl
theorem f17_11 : fetch 17 11 = some (.aload_n 0, 0, 0, 0) := rfl
theorem f17_12 : fetch 17 12 = some (.iload_n 1, 0, 0, 0) := rfl
theorem f17_13 : fetch 17 13 = some (.iload_n 2, 0, 0, 0) := rfl
theorem f17_14 : fetch 17 14 = some (.invokevirtual 97, 13, 2, 0) := rfl
theorem f17_17 : fetch 17 17 = some (.lstore_n 3, 0, 0, 0) := rfl
theorem f17_18 : fetch 17 18 = some (.lload_n 3, 0, 0, 0) := rfl
theorem f17_19 : fetch 17 19 = some (.invokestatic 101, 307, 1, 1) := rfl
theorem f17_22 : fetch 17 22 = some (.iconst 1, 0, 0, 0) := rfl
theorem f17_23 : fetch 17 23 = some (.if_icmp .ne 11, 34, 0, 0) := rfl
theorem f17_26 : fetch 17 26 = some (.lload_n 3, 0, 0, 0) := rfl
theorem f17_27 : fetch 17 27 = some (.iconst 0, 0, 0, 0) := rfl
theorem f17_28 : fetch 17 28 = some (.invokestatic 107, 169, 2, 2) := rfl
theorem f17_31 : fetch 17 31 = some (.goto 4, 35, 0, 0) := rfl
theorem f17_34 : fetch 17 34 = some (.iconst (-1), 0, 0, 0) := rfl
theorem f17_35 : fetch 17 35 = some (.ireturn, 0, 0, 0) := rfl
set_option maxRecDepth 100000 in
set_option maxHeartbeats 4000000 in
theorem p17_ok (d : Nat) (F : Nat) (h : HS) (w : WF h) (a0 : Int32) (a1 : Int32) (r : Int32) (hp : p17 F h a0 a1 = some r) : ex (d + 3) 17 (ent 17 [.ref (50), .int (a0), .int (a1)] h) = some (some (.int (r)), h) := by
  rw [show ent 17 [.ref (50), .int (a0), .int (a1)] h = (0, [some (.ref (50)), some (.int (a0)), some (.int (a1)), none, none], [], h) from by  rfl]
  refine ex_weak (ls := [some (.ref (50)), some (.int (a0)), some (.int (a1)), none, none]) (le2_ok ⟨Or.inr rfl, Or.inr rfl, Or.inr rfl, Or.inr rfl, Or.inr rfl, trivial⟩) ?_
  unfold p17 at hp
  refine e_aload_n f17_0 rfl ?_
  refine e_iload_n f17_1 rfl ?_
  refine e_iload_n f17_2 rfl ?_
  obtain ⟨r1, hr2, hp⟩ := bind_some hp
  try dsimp only at hp
  refine e_callV (st := []) (o := 50) (as := [.int (a0), .int (a1)]) f17_3 (by decide) rfl rfl (Nat.le_of_ble_eq_true rfl) (WF.t w 50 (by decide)) (Nat.le_of_ble_eq_true rfl) (p14_ok d F (h) w (a0) (a1) r1 hr2) ?_
  show ex _ 17 (6, [some (.ref (50)), some (.int (a0)), some (.int (a1)), none, none], [.int (r1)], h) = _
  by_cases hc3 : (r1) = (0 : Int32)
  · rw [if_pos hc3] at hp
    refine e_if_ne_f f17_6 hc3 ?_
    refine e_iconst (v := -1) f17_9 (by decide) ?_
    have hp := Option.some.inj hp
    subst hp
    exact e_ireturn f17_10 (Or.inl rfl)
  · rw [if_neg hc3] at hp
    refine e_if_ne_t f17_6 hc3 ?_
    refine e_aload_n f17_11 rfl ?_
    refine e_iload_n f17_12 rfl ?_
    refine e_iload_n f17_13 rfl ?_
    obtain ⟨r4, hr5, hp⟩ := bind_some hp
    try dsimp only at hp
    refine e_callV (st := []) (o := 50) (as := [.int (a0), .int (a1)]) f17_14 (by decide) rfl rfl (Nat.le_of_ble_eq_true rfl) (WF.t w 50 (by decide)) (Nat.le_of_ble_eq_true rfl) (p13_ok d F (h) w (a0) (a1) r4 hr5) ?_
    show ex _ 17 (17, [some (.ref (50)), some (.int (a0)), some (.int (a1)), none, none], [.long (r4)], h) = _
    refine e_lstore_n (ls2 := [some (.ref (50)), some (.int (a0)), some (.int (a1)), some (.long (r4)), none]) f17_17 (Nat.le_of_ble_eq_true rfl) rfl ?_
    refine e_lload_n f17_18 rfl ?_
    obtain ⟨r6, hr7, hp⟩ := bind_some hp
    try dsimp only at hp
    refine e_callS (st := []) (as := [.long (r4)]) f17_19 (by decide) rfl rfl (Nat.le_of_ble_eq_true rfl) (Nat.le_of_ble_eq_true rfl) (p307_ok (d + 2) (h) w (r4) r6 hr7) ?_
    show ex _ 17 (22, [some (.ref (50)), some (.int (a0)), some (.int (a1)), some (.long (r4)), none], [.int (r6)], h) = _
    refine e_iconst (v := 1) f17_22 (by decide) ?_
    by_cases hc8 : (r6) = ((1) : Int32)
    · rw [if_pos hc8] at hp
      refine e_icmp_ne_f f17_23 hc8 ?_
      refine e_lload_n f17_26 rfl ?_
      refine e_iconst (v := 0) f17_27 (by decide) ?_
      obtain ⟨r9, hr10, hp⟩ := bind_some hp
      try dsimp only at hp
      refine e_callS (st := []) (as := [.long (r4), .int (0)]) f17_28 (by decide) rfl rfl (Nat.le_of_ble_eq_true rfl) (Nat.le_of_ble_eq_true rfl) (p169_ok (d + 2) F (h) w (r4) (0) r9 hr10) ?_
      show ex _ 17 (31, [some (.ref (50)), some (.int (a0)), some (.int (a1)), some (.long (r4)), none], [.int (r9)], h) = _
      refine e_goto f17_31 ?_
      have hp := Option.some.inj hp
      subst hp
      exact e_ireturn f17_35 (Or.inl rfl)
    · rw [if_neg hc8] at hp
      refine e_icmp_ne_t f17_23 hc8 ?_
      refine e_iconst (v := -1) f17_34 (by decide) ?_
      have hp := Option.some.inj hp
      subst hp
      exact e_ireturn f17_35 (Or.inl rfl)
theorem f18_0 : fetch 18 0 = some (.lconst 0, 0, 0, 0) := rfl
theorem f18_1 : fetch 18 1 = some (.lstore_n 2, 0, 0, 0) := rfl
theorem f18_2 : fetch 18 2 = some (.iconst 0, 0, 0, 0) := rfl
theorem f18_3 : fetch 18 3 = some (.istore 4, 0, 0, 0) := rfl
theorem f18_5 : fetch 18 5 = some (.iload 4, 0, 0, 0) := rfl
theorem f18_7 : fetch 18 7 = some (.aload_n 0, 0, 0, 0) := rfl
theorem f18_8 : fetch 18 8 = some (.getfield 42, 0, 1, 0) := rfl
theorem f18_11 : fetch 18 11 = some (.if_icmp .ge 31, 42, 0, 0) := rfl
theorem f18_14 : fetch 18 14 = some (.aload_n 0, 0, 0, 0) := rfl
theorem f18_15 : fetch 18 15 = some (.iload 4, 0, 0, 0) := rfl
theorem f18_17 : fetch 18 17 = some (.iload_n 1, 0, 0, 0) := rfl
theorem f18_18 : fetch 18 18 = some (.invokevirtual 111, 17, 2, 0) := rfl
theorem f18_21 : fetch 18 21 = some (.istore 5, 0, 0, 0) := rfl
theorem f18_23 : fetch 18 23 = some (.iload 5, 0, 0, 0) := rfl
theorem f18_25 : fetch 18 25 = some (.iconst (-1), 0, 0, 0) := rfl
theorem f18_26 : fetch 18 26 = some (.if_icmp .eq 10, 36, 0, 0) := rfl
theorem f18_29 : fetch 18 29 = some (.lload_n 2, 0, 0, 0) := rfl
theorem f18_30 : fetch 18 30 = some (.lconst 1, 0, 0, 0) := rfl
theorem f18_31 : fetch 18 31 = some (.iload 5, 0, 0, 0) := rfl
theorem f18_33 : fetch 18 33 = some (.lshl, 0, 0, 0) := rfl
theorem f18_34 : fetch 18 34 = some (.lor, 0, 0, 0) := rfl
theorem f18_35 : fetch 18 35 = some (.lstore_n 2, 0, 0, 0) := rfl
theorem f18_36 : fetch 18 36 = some (.iinc 4 1, 0, 0, 0) := rfl
theorem f18_39 : fetch 18 39 = some (.goto (-34), 5, 0, 0) := rfl
theorem f18_42 : fetch 18 42 = some (.lload_n 2, 0, 0, 0) := rfl
theorem f18_43 : fetch 18 43 = some (.lreturn, 0, 0, 0) := rfl
set_option maxRecDepth 100000 in
set_option maxHeartbeats 4000000 in
theorem p18_j36_ok (d : Nat) (F : Nat) (a0 : Int32) (K5 : Int64 → Int32 → Option (Int64)) (h : HS) (w : WF h) (hK5 : ∀ (u2 : Int64) (u4 : Int32) (r : Int64), K5 u2 u4 = some r → ex (d + 4) 18 (5, [some (.ref (50)), some (.int (a0)), some (.long (u2)), none, some (.int (u4)), none], [], h) = some (some (.long (r)), h)) (v2 : Int64) (v4 : Int32) (r : Int64) (hp : p18_j36 F a0 K5 h v2 v4 = some r) : ex (d + 4) 18 (36, [some (.ref (50)), some (.int (a0)), some (.long (v2)), none, some (.int (v4)), none], [], h) = some (some (.long (r)), h) := by
  unfold p18_j36 at hp
  refine e_iinc (ls2 := [some (.ref (50)), some (.int (a0)), some (.long (v2)), none, some (.int ((v4) + 1)), none]) f18_36 (by decide) rfl rfl ?_
  refine e_goto f18_39 ?_
  refine ex_weak (ls := [some (.ref (50)), some (.int (a0)), some (.long (v2)), none, some (.int ((v4) + 1)), none]) (le2_ok ⟨Or.inr rfl, Or.inr rfl, Or.inr rfl, Or.inl rfl, Or.inr rfl, Or.inl rfl, trivial⟩) ?_
  exact hK5 (v2) ((v4) + 1) _ hp
set_option maxRecDepth 100000 in
set_option maxHeartbeats 4000000 in
theorem p18_L5_ok (d : Nat) (F : Nat) (a0 : Int32) (h : HS) (w : WF h)  : ∀ (n : Nat) (v2 : Int64) (v4 : Int32) (r : Int64), p18_L5 F a0 n h v2 v4 = some r → ex (d + 4) 18 (5, [some (.ref (50)), some (.int (a0)), some (.long (v2)), none, some (.int (v4)), none], [], h) = some (some (.long (r)), h) := by
  intro n
  induction n with
  | zero => intro v2 v4 r hp; cases hp
  | succ n ih =>
    intro v2 v4 r hp
    unfold p18_L5 at hp
    refine e_iload f18_5 rfl ?_
    refine e_aload_n f18_7 rfl ?_
    refine e_getI f18_8 (WF.t w 50 (by decide)) (by decide) ?_
    by_cases hc1 : (v4) < ((hI (h) (50) 1) : Int32)
    · rw [if_pos hc1] at hp
      refine e_icmp_ge_f f18_11 hc1 ?_
      refine e_aload_n f18_14 rfl ?_
      refine e_iload f18_15 rfl ?_
      refine e_iload_n f18_17 rfl ?_
      obtain ⟨r2, hr3, hp⟩ := bind_some hp
      try dsimp only at hp
      refine e_callV (st := []) (o := 50) (as := [.int (v4), .int (a0)]) f18_18 (by decide) rfl rfl (Nat.le_of_ble_eq_true rfl) (WF.t w 50 (by decide)) (Nat.le_of_ble_eq_true rfl) (p17_ok d F (h) w (v4) (a0) r2 hr3) ?_
      show ex _ 18 (21, [some (.ref (50)), some (.int (a0)), some (.long (v2)), none, some (.int (v4)), none], [.int (r2)], h) = _
      refine e_istore (ls2 := [some (.ref (50)), some (.int (a0)), some (.long (v2)), none, some (.int (v4)), some (.int (r2))]) f18_21 (Nat.le_of_ble_eq_true rfl) rfl ?_
      refine e_iload f18_23 rfl ?_
      refine e_iconst (v := -1) f18_25 (by decide) ?_
      by_cases hc4 : (r2) = (((-1)) : Int32)
      · rw [if_pos hc4] at hp
        refine e_icmp_eq_t f18_26 hc4 ?_
        refine ex_weak (ls := [some (.ref (50)), some (.int (a0)), some (.long (v2)), none, some (.int (v4)), none]) (le2_ok ⟨Or.inr rfl, Or.inr rfl, Or.inr rfl, Or.inl rfl, Or.inr rfl, Or.inl rfl, trivial⟩) ?_
        exact p18_j36_ok d F a0 ((p18_L5 F a0 n h)) (h) (w) (ih) (v2) (v4) _ hp
      · rw [if_neg hc4] at hp
        refine e_icmp_eq_f f18_26 hc4 ?_
        refine e_lload_n f18_29 rfl ?_
        refine e_lconst (v := 1) f18_30 (by decide) ?_
        refine e_iload f18_31 rfl ?_
        refine e_lshl f18_33 ?_
        refine e_lor f18_34 ?_
        refine e_lstore_n (ls2 := [some (.ref (50)), some (.int (a0)), some (.long ((v2) ||| (((1 : Int64)) <<< ((r2).toInt64 &&& 63)))), none, some (.int (v4)), some (.int (r2))]) f18_35 (Nat.le_of_ble_eq_true rfl) rfl ?_
        refine ex_weak (ls := [some (.ref (50)), some (.int (a0)), some (.long ((v2) ||| (((1 : Int64)) <<< ((r2).toInt64 &&& 63)))), none, some (.int (v4)), none]) (le2_ok ⟨Or.inr rfl, Or.inr rfl, Or.inr rfl, Or.inl rfl, Or.inr rfl, Or.inl rfl, trivial⟩) ?_
        exact p18_j36_ok d F a0 ((p18_L5 F a0 n h)) (h) (w) (ih) ((v2) ||| (((1 : Int64)) <<< ((r2).toInt64 &&& 63))) (v4) _ hp
    · rw [if_neg hc1] at hp
      refine e_icmp_ge_t f18_11 hc1 ?_
      refine e_lload_n f18_42 rfl ?_
      have hp := Option.some.inj hp
      subst hp
      exact e_lreturn f18_43
set_option maxRecDepth 100000 in
set_option maxHeartbeats 4000000 in
theorem p18_ok (d : Nat) (F : Nat) (h : HS) (w : WF h) (a0 : Int32) (r : Int64) (hp : p18 F h a0 = some r) : ex (d + 4) 18 (ent 18 [.ref (50), .int (a0)] h) = some (some (.long (r)), h) := by
  rw [show ent 18 [.ref (50), .int (a0)] h = (0, [some (.ref (50)), some (.int (a0)), none, none, none, none], [], h) from by  rfl]
  refine ex_weak (ls := [some (.ref (50)), some (.int (a0)), none, none, none, none]) (le2_ok ⟨Or.inr rfl, Or.inr rfl, Or.inr rfl, Or.inr rfl, Or.inr rfl, Or.inr rfl, trivial⟩) ?_
  unfold p18 at hp
  refine e_lconst (v := 0) f18_0 (by decide) ?_
  refine e_lstore_n (ls2 := [some (.ref (50)), some (.int (a0)), some (.long ((0 : Int64))), none, none, none]) f18_1 (Nat.le_of_ble_eq_true rfl) rfl ?_
  refine e_iconst (v := 0) f18_2 (by decide) ?_
  refine e_istore (ls2 := [some (.ref (50)), some (.int (a0)), some (.long ((0 : Int64))), none, some (.int (0)), none]) f18_3 (Nat.le_of_ble_eq_true rfl) rfl ?_
  refine ex_weak (ls := [some (.ref (50)), some (.int (a0)), some (.long ((0 : Int64))), none, some (.int (0)), none]) (le2_ok ⟨Or.inr rfl, Or.inr rfl, Or.inr rfl, Or.inl rfl, Or.inr rfl, Or.inl rfl, trivial⟩) ?_
  exact p18_L5_ok d F a0 (h) (w) F ((0 : Int64)) (0) _ hp
theorem f311_0 : fetch 311 0 = some (.iconst 0, 0, 0, 0) := rfl
theorem f311_1 : fetch 311 1 = some (.istore_n 3, 0, 0, 0) := rfl
theorem f311_2 : fetch 311 2 = some (.aload_n 0, 0, 0, 0) := rfl
theorem f311_3 : fetch 311 3 = some (.arraylength, 0, 0, 0) := rfl
theorem f311_4 : fetch 311 4 = some (.istore 4, 0, 0, 0) := rfl
theorem f311_6 : fetch 311 6 = some (.iload_n 3, 0, 0, 0) := rfl
theorem f311_7 : fetch 311 7 = some (.iload 4, 0, 0, 0) := rfl
theorem f311_9 : fetch 311 9 = some (.if_icmp .ge 13, 22, 0, 0) := rfl
theorem f311_12 : fetch 311 12 = some (.aload_n 0, 0, 0, 0) := rfl
theorem f311_13 : fetch 311 13 = some (.iload_n 3, 0, 0, 0) := rfl
theorem f311_14 : fetch 311 14 = some (.lload_n 1, 0, 0, 0) := rfl
theorem f311_15 : fetch 311 15 = some (.lastore, 0, 0, 0) := rfl
theorem f311_16 : fetch 311 16 = some (.iinc 3 1, 0, 0, 0) := rfl
theorem f311_19 : fetch 311 19 = some (.goto (-13), 6, 0, 0) := rfl
theorem f311_22 : fetch 311 22 = some (.return_, 0, 0, 0) := rfl
set_option maxRecDepth 100000 in
set_option maxHeartbeats 4000000 in
theorem p311_L6_ok (d : Nat) (F : Nat) (a0 : Option Nat) (a1 : Int64) : ∀ (n : Nat) (h : HS) (w : WF h) (v3 : Int32) (v4 : Int32) (r : HS), p311_L6 F a0 a1 n h v3 v4 = some r → ex (d + 0) 311 (6, [some (va_rf (a0)), some (.long (a1)), none, some (.int (v3)), some (.int (v4))], [], h) = some (none, r) := by
  intro n
  induction n with
  | zero => intro h w v3 v4 r hp; cases hp
  | succ n ih =>
    intro h w v3 v4 r hp
    unfold p311_L6 at hp
    refine e_iload_n f311_6 rfl ?_
    refine e_iload f311_7 rfl ?_
    by_cases hc4 : (v3) < ((v4) : Int32)
    · rw [if_pos hc4] at hp
      refine e_icmp_ge_f f311_9 hc4 ?_
      refine e_qload_n f311_12 rfl ?_
      refine e_iload_n f311_13 rfl ?_
      refine e_lload_n f311_14 rfl ?_
      obtain ⟨o5, ho6, hp⟩ := bind_some hp
      try dsimp only at hp
      rw [ho6]
      by_cases hg7 : hT (h) (o5) = 23
      rotate_left
      · rw [if_neg hg7] at hp; cases hp
      rw [if_pos hg7] at hp
      by_cases hg8 : (v3) < (0 : Int32) ∨ hN (h) (o5) ≤ (v3).toNatClampNeg
      · rw [if_pos hg8] at hp; cases hp
      rw [if_neg hg8] at hp
      refine e_lastore f311_15 hg7 rfl hg8 ?_
      refine e_iinc (ls2 := [some (.ref (o5)), some (.long (a1)), none, some (.int ((v3) + 1)), some (.int (v4))]) f311_16 (by decide) rfl rfl ?_
      refine e_goto f311_19 ?_
      refine ex_weak (ls := [some (va_rf (a0)), some (.long (a1)), none, some (.int ((v3) + 1)), some (.int (v4))]) (le2_ok ⟨Or.inr (congrArg (fun z => some (va_rf z)) ho6), Or.inr rfl, Or.inl rfl, Or.inr rfl, Or.inr rfl, trivial⟩) ?_
      exact ih (hsL (h) (o5) (v3).toNatClampNeg (a1)) (w) ((v3) + 1) (v4) _ hp
    · rw [if_neg hc4] at hp
      refine e_icmp_ge_t f311_9 hc4 ?_
      have hp := Option.some.inj hp
      subst hp
      exact e_return f311_22
set_option maxRecDepth 100000 in
set_option maxHeartbeats 4000000 in
theorem p311_L6_w (F : Nat) (a0 : Option Nat) (a1 : Int64) : ∀ (n : Nat) (h : HS) (w : WF h) (v3 : Int32) (v4 : Int32) (r : HS), p311_L6 F a0 a1 n h v3 v4 = some r → WF r := by
  intro n
  induction n with
  | zero => intro h w v3 v4 r hp; cases hp
  | succ n ih =>
    intro h w v3 v4 r hp
    unfold p311_L6 at hp
    by_cases hc4 : (v3) < ((v4) : Int32)
    · rw [if_pos hc4] at hp
      obtain ⟨o5, ho6, hp⟩ := bind_some hp
      try dsimp only at hp
      by_cases hg7 : hT (h) (o5) = 23
      rotate_left
      · rw [if_neg hg7] at hp; cases hp
      rw [if_pos hg7] at hp
      by_cases hg8 : (v3) < (0 : Int32) ∨ hN (h) (o5) ≤ (v3).toNatClampNeg
      · rw [if_pos hg8] at hp; cases hp
      rw [if_neg hg8] at hp
      exact ih (hsL (h) (o5) (v3).toNatClampNeg (a1)) (w) ((v3) + 1) (v4) _ hp
    · rw [if_neg hc4] at hp
      have hp := Option.some.inj hp
      subst hp
      exact (w)
set_option maxRecDepth 100000 in
set_option maxHeartbeats 4000000 in
theorem p311_ok (d : Nat) (F : Nat) (h : HS) (w : WF h) (a0 : Option Nat) (a1 : Int64) (r : HS) (hp : p311 F h a0 a1 = some r) : ex (d + 0) 311 (ent 311 [va_rf (a0), .long (a1)] h) = some (none, r) := by
  rw [show ent 311 [va_rf (a0), .long (a1)] h = (0, [some (va_rf (a0)), some (.long (a1)), none, none, none], [], h) from by cases a0 <;> rfl]
  refine ex_weak (ls := [some (va_rf (a0)), some (.long (a1)), none, none, none]) (le2_ok ⟨Or.inr rfl, Or.inr rfl, Or.inr rfl, Or.inr rfl, Or.inr rfl, trivial⟩) ?_
  unfold p311 at hp
  refine e_iconst (v := 0) f311_0 (by decide) ?_
  refine e_istore_n (ls2 := [some (va_rf (a0)), some (.long (a1)), none, some (.int (0)), none]) f311_1 (Nat.le_of_ble_eq_true rfl) rfl ?_
  refine e_qload_n f311_2 rfl ?_
  obtain ⟨o1, ho2, hp⟩ := bind_some hp
  try dsimp only at hp
  rw [ho2]
  by_cases hg3 : hT (h) (o1) = 23
  rotate_left
  · rw [if_neg hg3] at hp; cases hp
  rw [if_pos hg3] at hp
  refine e_arraylength (v := Int32.ofNat (hN (h) (o1))) f311_3 (Or.inl ⟨by rw [hg3]; decide, by rw [hg3]; decide⟩) rfl ?_
  refine e_istore (ls2 := [some (.ref (o1)), some (.long (a1)), none, some (.int (0)), some (.int (Int32.ofNat (hN (h) (o1))))]) f311_4 (Nat.le_of_ble_eq_true rfl) rfl ?_
  refine ex_weak (ls := [some (va_rf (a0)), some (.long (a1)), none, some (.int (0)), some (.int (Int32.ofNat (hN (h) (o1))))]) (le2_ok ⟨Or.inr (congrArg (fun z => some (va_rf z)) ho2), Or.inr rfl, Or.inl rfl, Or.inr rfl, Or.inr rfl, trivial⟩) ?_
  exact p311_L6_ok d F a0 a1 F (h) (w) (0) (Int32.ofNat (hN (h) (o1))) _ hp
set_option maxRecDepth 100000 in
set_option maxHeartbeats 4000000 in
theorem p311_w (F : Nat) (h : HS) (w : WF h) (a0 : Option Nat) (a1 : Int64) (r : HS) (hp : p311 F h a0 a1 = some r) : WF r := by
  unfold p311 at hp
  obtain ⟨o1, ho2, hp⟩ := bind_some hp
  try dsimp only at hp
  by_cases hg3 : hT (h) (o1) = 23
  rotate_left
  · rw [if_neg hg3] at hp; cases hp
  rw [if_pos hg3] at hp
  exact p311_L6_w F a0 a1 F (h) (w) (0) (Int32.ofNat (hN (h) (o1))) _ hp
theorem f19_0 : fetch 19 0 = some (.aload_n 0, 0, 0, 0) := rfl
theorem f19_1 : fetch 19 1 = some (.iload_n 1, 0, 0, 0) := rfl
theorem f19_2 : fetch 19 2 = some (.iload_n 2, 0, 0, 0) := rfl
theorem f19_3 : fetch 19 3 = some (.invokevirtual 97, 13, 2, 0) := rfl
theorem f19_6 : fetch 19 6 = some (.lstore 4, 0, 0, 0) := rfl
theorem f19_8 : fetch 19 8 = some (.lload 4, 0, 0, 0) := rfl
theorem f19_10 : fetch 19 10 = some (.invokestatic 101, 307, 1, 1) := rfl
theorem f19_13 : fetch 19 13 = some (.istore 6, 0, 0, 0) := rfl
theorem f19_15 : fetch 19 15 = some (.aload_n 0, 0, 0, 0) := rfl
theorem f19_16 : fetch 19 16 = some (.getfield 30, 0, 10, 2) := rfl
theorem f19_19 : fetch 19 19 = some (.lload 4, 0, 0, 0) := rfl
theorem f19_21 : fetch 19 21 = some (.invokestatic 114, 311, 2, 1) := rfl
theorem f19_24 : fetch 19 24 = some (.iconst 0, 0, 0, 0) := rfl
theorem f19_25 : fetch 19 25 = some (.istore 7, 0, 0, 0) := rfl
theorem f19_27 : fetch 19 27 = some (.iload 7, 0, 0, 0) := rfl
theorem f19_29 : fetch 19 29 = some (.aload_n 0, 0, 0, 0) := rfl
theorem f19_30 : fetch 19 30 = some (.getfield 48, 0, 3, 0) := rfl
theorem f19_33 : fetch 19 33 = some (.if_icmp .ge 87, 120, 0, 0) := rfl
theorem f19_36 : fetch 19 36 = some (.aload_n 0, 0, 0, 0) := rfl
theorem f19_37 : fetch 19 37 = some (.getfield 24, 0, 8, 2) := rfl
theorem f19_40 : fetch 19 40 = some (.iload 7, 0, 0, 0) := rfl
theorem f19_42 : fetch 19 42 = some (.aaload, 0, 0, 0) := rfl
theorem f19_43 : fetch 19 43 = some (.astore 8, 0, 0, 0) := rfl
theorem f19_45 : fetch 19 45 = some (.aload 8, 0, 0, 0) := rfl
theorem f19_47 : fetch 19 47 = some (.getfield 78, 5, 3, 0) := rfl
theorem f19_50 : fetch 19 50 = some (.iload_n 1, 0, 0, 0) := rfl
theorem f19_51 : fetch 19 51 = some (.if_icmp .ne 63, 114, 0, 0) := rfl
theorem f19_54 : fetch 19 54 = some (.aload 8, 0, 0, 0) := rfl
theorem f19_56 : fetch 19 56 = some (.getfield 120, 5, 2, 0) := rfl
theorem f19_59 : fetch 19 59 = some (.sipush 4000, 0, 0, 0) := rfl
theorem f19_62 : fetch 19 62 = some (.if_icmp .ne 52, 114, 0, 0) := rfl
theorem f19_65 : fetch 19 65 = some (.aload 8, 0, 0, 0) := rfl
theorem f19_67 : fetch 19 67 = some (.getfield 123, 5, 0, 2) := rfl
theorem f19_70 : fetch 19 70 = some (.ifnull 44, 114, 0, 0) := rfl
theorem f19_73 : fetch 19 73 = some (.aload 8, 0, 0, 0) := rfl
theorem f19_75 : fetch 19 75 = some (.getfield 123, 5, 0, 2) := rfl
theorem f19_78 : fetch 19 78 = some (.getfield 127, 9, 2, 0) := rfl
theorem f19_81 : fetch 19 81 = some (.sipush 4000, 0, 0, 0) := rfl
theorem f19_84 : fetch 19 84 = some (.if_icmp .ne 30, 114, 0, 0) := rfl
theorem f19_87 : fetch 19 87 = some (.aload_n 0, 0, 0, 0) := rfl
theorem f19_88 : fetch 19 88 = some (.getfield 30, 0, 10, 2) := rfl
theorem f19_91 : fetch 19 91 = some (.aload 8, 0, 0, 0) := rfl
theorem f19_93 : fetch 19 93 = some (.getfield 123, 5, 0, 2) := rfl
theorem f19_96 : fetch 19 96 = some (.getfield 132, 9, 0, 0) := rfl
theorem f19_99 : fetch 19 99 = some (.dup2, 0, 0, 0) := rfl
theorem f19_100 : fetch 19 100 = some (.laload, 0, 0, 0) := rfl
theorem f19_101 : fetch 19 101 = some (.aload_n 0, 0, 0, 0) := rfl
theorem f19_102 : fetch 19 102 = some (.aload 8, 0, 0, 0) := rfl
theorem f19_104 : fetch 19 104 = some (.iload_n 2, 0, 0, 0) := rfl
theorem f19_105 : fetch 19 105 = some (.invokevirtual 81, 11, 2, 0) := rfl
theorem f19_108 : fetch 19 108 = some (.ldc2_w 76, 0, 0, -1) := rfl
theorem f19_111 : fetch 19 111 = some (.lxor, 0, 0, 0) := rfl
theorem f19_112 : fetch 19 112 = some (.land, 0, 0, 0) := rfl
theorem f19_113 : fetch 19 113 = some (.lastore, 0, 0, 0) := rfl
theorem f19_114 : fetch 19 114 = some (.iinc 7 1, 0, 0, 0) := rfl
theorem f19_117 : fetch 19 117 = some (.goto (-90), 27, 0, 0) := rfl
theorem f19_120 : fetch 19 120 = some (.iconst (-1), 0, 0, 0) := rfl
theorem f19_121 : fetch 19 121 = some (.istore 7, 0, 0, 0) := rfl
theorem f19_123 : fetch 19 123 = some (.iconst 0, 0, 0, 0) := rfl
theorem f19_124 : fetch 19 124 = some (.istore 8, 0, 0, 0) := rfl
theorem f19_126 : fetch 19 126 = some (.iconst 0, 0, 0, 0) := rfl
theorem f19_127 : fetch 19 127 = some (.istore 9, 0, 0, 0) := rfl
theorem f19_129 : fetch 19 129 = some (.iload 9, 0, 0, 0) := rfl
theorem f19_131 : fetch 19 131 = some (.iload_n 3, 0, 0, 0) := rfl
theorem f19_132 : fetch 19 132 = some (.if_icmp .ge 61, 193, 0, 0) := rfl
theorem f19_135 : fetch 19 135 = some (.aload_n 0, 0, 0, 0) := rfl
theorem f19_136 : fetch 19 136 = some (.getfield 30, 0, 10, 2) := rfl
theorem f19_139 : fetch 19 139 = some (.iload 9, 0, 0, 0) := rfl
theorem f19_141 : fetch 19 141 = some (.laload, 0, 0, 0) := rfl
theorem f19_142 : fetch 19 142 = some (.invokestatic 101, 307, 1, 1) := rfl
theorem f19_145 : fetch 19 145 = some (.istore 10, 0, 0, 0) := rfl
theorem f19_147 : fetch 19 147 = some (.iconst 2, 0, 0, 0) := rfl
theorem f19_148 : fetch 19 148 = some (.iload 10, 0, 0, 0) := rfl
theorem f19_150 : fetch 19 150 = some (.imul, 0, 0, 0) := rfl
theorem f19_151 : fetch 19 151 = some (.iload 6, 0, 0, 0) := rfl
theorem f19_153 : fetch 19 153 = some (.isub, 0, 0, 0) := rfl
theorem f19_154 : fetch 19 154 = some (.invokestatic 135, 0, 1, 9) := rfl
theorem f19_157 : fetch 19 157 = some (.istore 11, 0, 0, 0) := rfl
theorem f19_159 : fetch 19 159 = some (.iload 10, 0, 0, 0) := rfl
theorem f19_161 : fetch 19 161 = some (.iload 6, 0, 0, 0) := rfl
theorem f19_163 : fetch 19 163 = some (.if_icmp .ge 24, 187, 0, 0) := rfl
theorem f19_166 : fetch 19 166 = some (.iload 7, 0, 0, 0) := rfl
theorem f19_168 : fetch 19 168 = some (.iconst (-1), 0, 0, 0) := rfl
theorem f19_169 : fetch 19 169 = some (.if_icmp .eq 10, 179, 0, 0) := rfl
theorem f19_172 : fetch 19 172 = some (.iload 11, 0, 0, 0) := rfl
theorem f19_174 : fetch 19 174 = some (.iload 8, 0, 0, 0) := rfl
theorem f19_176 : fetch 19 176 = some (.if_icmp .ge 11, 187, 0, 0) := rfl
theorem f19_179 : fetch 19 179 = some (.iload 9, 0, 0, 0) := rfl
theorem f19_181 : fetch 19 181 = some (.istore 7, 0, 0, 0) := rfl
theorem f19_183 : fetch 19 183 = some (.iload 11, 0, 0, 0) := rfl
theorem f19_185 : fetch 19 185 = some (.istore 8, 0, 0, 0) := rfl
theorem f19_187 : fetch 19 187 = some (.iinc 9 1, 0, 0, 0) := rfl
theorem f19_190 : fetch 19 190 = some (.goto (-61), 129, 0, 0) := rfl
theorem f19_193 : fetch 19 193 = some (.iload 7, 0, 0, 0) := rfl
theorem f19_195 : fetch 19 195 = some (.ireturn, 0, 0, 0) := rfl
set_option maxRecDepth 100000 in
set_option maxHeartbeats 4000000 in
theorem p19_j114_ok (d : Nat) (F : Nat) (a0 : Int32) (a1 : Int32) (a2 : Int32) (K27 : HS → Int32 → Int32 → Option (Int32 × HS)) (hK27 : ∀ (h : HS) (w : WF h) (u6 : Int32) (u7 : Int32) (r : Int32 × HS), K27 h u6 u7 = some r → ex (d + 3) 19 (27, [some (.ref (50)), some (.int (a0)), some (.int (a1)), some (.int (a2)), none, none, some (.int (u6)), some (.int (u7)), none, none, none, none], [], h) = some (some (.int (r.1)), r.2)) (h : HS) (w : WF h) (v6 : Int32) (v7 : Int32) (r : Int32 × HS) (hp : p19_j114 F a0 a1 a2 K27 h v6 v7 = some r) : ex (d + 3) 19 (114, [some (.ref (50)), some (.int (a0)), some (.int (a1)), some (.int (a2)), none, none, some (.int (v6)), some (.int (v7)), none, none, none, none], [], h) = some (some (.int (r.1)), r.2) := by
  unfold p19_j114 at hp
  refine e_iinc (ls2 := [some (.ref (50)), some (.int (a0)), some (.int (a1)), some (.int (a2)), none, none, some (.int (v6)), some (.int ((v7) + 1)), none, none, none, none]) f19_114 (by decide) rfl rfl ?_
  refine e_goto f19_117 ?_
  refine ex_weak (ls := [some (.ref (50)), some (.int (a0)), some (.int (a1)), some (.int (a2)), none, none, some (.int (v6)), some (.int ((v7) + 1)), none, none, none, none]) (le2_ok ⟨Or.inr rfl, Or.inr rfl, Or.inr rfl, Or.inr rfl, Or.inl rfl, Or.inl rfl, Or.inr rfl, Or.inr rfl, Or.inl rfl, Or.inl rfl, Or.inl rfl, Or.inl rfl, trivial⟩) ?_
  exact hK27 (h) (w) (v6) ((v7) + 1) _ hp
set_option maxRecDepth 100000 in
set_option maxHeartbeats 4000000 in
theorem p19_j114_w (F : Nat) (a0 : Int32) (a1 : Int32) (a2 : Int32) (K27 : HS → Int32 → Int32 → Option (Int32 × HS)) (hK27 : ∀ (h : HS) (w : WF h) (u6 : Int32) (u7 : Int32) (r : Int32 × HS), K27 h u6 u7 = some r → WF r.2) (h : HS) (w : WF h) (v6 : Int32) (v7 : Int32) (r : Int32 × HS) (hp : p19_j114 F a0 a1 a2 K27 h v6 v7 = some r) : WF r.2 := by
  unfold p19_j114 at hp
  exact hK27 (h) (w) (v6) ((v7) + 1) _ hp
set_option maxRecDepth 100000 in
set_option maxHeartbeats 4000000 in
theorem p19_j187_ok (d : Nat) (F : Nat) (a0 : Int32) (a1 : Int32) (a2 : Int32) (K129 : HS → Int32 → Int32 → Int32 → Int32 → Option (Int32 × HS)) (hK129 : ∀ (h : HS) (w : WF h) (u6 : Int32) (u7 : Int32) (u8 : Int32) (u9 : Int32) (r : Int32 × HS), K129 h u6 u7 u8 u9 = some r → ex (d + 3) 19 (129, [some (.ref (50)), none, none, some (.int (a2)), none, none, some (.int (u6)), some (.int (u7)), some (.int (u8)), some (.int (u9)), none, none], [], h) = some (some (.int (r.1)), r.2)) (h : HS) (w : WF h) (v6 : Int32) (v7 : Int32) (v8 : Int32) (v9 : Int32) (r : Int32 × HS) (hp : p19_j187 F a0 a1 a2 K129 h v6 v7 v8 v9 = some r) : ex (d + 3) 19 (187, [some (.ref (50)), none, none, some (.int (a2)), none, none, some (.int (v6)), some (.int (v7)), some (.int (v8)), some (.int (v9)), none, none], [], h) = some (some (.int (r.1)), r.2) := by
  unfold p19_j187 at hp
  refine e_iinc (ls2 := [some (.ref (50)), none, none, some (.int (a2)), none, none, some (.int (v6)), some (.int (v7)), some (.int (v8)), some (.int ((v9) + 1)), none, none]) f19_187 (by decide) rfl rfl ?_
  refine e_goto f19_190 ?_
  refine ex_weak (ls := [some (.ref (50)), none, none, some (.int (a2)), none, none, some (.int (v6)), some (.int (v7)), some (.int (v8)), some (.int ((v9) + 1)), none, none]) (le2_ok ⟨Or.inr rfl, Or.inl rfl, Or.inl rfl, Or.inr rfl, Or.inl rfl, Or.inl rfl, Or.inr rfl, Or.inr rfl, Or.inr rfl, Or.inr rfl, Or.inl rfl, Or.inl rfl, trivial⟩) ?_
  exact hK129 (h) (w) (v6) (v7) (v8) ((v9) + 1) _ hp
set_option maxRecDepth 100000 in
set_option maxHeartbeats 4000000 in
theorem p19_j187_w (F : Nat) (a0 : Int32) (a1 : Int32) (a2 : Int32) (K129 : HS → Int32 → Int32 → Int32 → Int32 → Option (Int32 × HS)) (hK129 : ∀ (h : HS) (w : WF h) (u6 : Int32) (u7 : Int32) (u8 : Int32) (u9 : Int32) (r : Int32 × HS), K129 h u6 u7 u8 u9 = some r → WF r.2) (h : HS) (w : WF h) (v6 : Int32) (v7 : Int32) (v8 : Int32) (v9 : Int32) (r : Int32 × HS) (hp : p19_j187 F a0 a1 a2 K129 h v6 v7 v8 v9 = some r) : WF r.2 := by
  unfold p19_j187 at hp
  exact hK129 (h) (w) (v6) (v7) (v8) ((v9) + 1) _ hp
set_option maxRecDepth 100000 in
set_option maxHeartbeats 4000000 in
theorem p19_j179_ok (d : Nat) (F : Nat) (a0 : Int32) (a1 : Int32) (a2 : Int32) (K129 : HS → Int32 → Int32 → Int32 → Int32 → Option (Int32 × HS)) (hK129 : ∀ (h : HS) (w : WF h) (u6 : Int32) (u7 : Int32) (u8 : Int32) (u9 : Int32) (r : Int32 × HS), K129 h u6 u7 u8 u9 = some r → ex (d + 3) 19 (129, [some (.ref (50)), none, none, some (.int (a2)), none, none, some (.int (u6)), some (.int (u7)), some (.int (u8)), some (.int (u9)), none, none], [], h) = some (some (.int (r.1)), r.2)) (h : HS) (w : WF h) (v6 : Int32) (v9 : Int32) (v11 : Int32) (r : Int32 × HS) (hp : p19_j179 F a0 a1 a2 K129 h v6 v9 v11 = some r) : ex (d + 3) 19 (179, [some (.ref (50)), none, none, some (.int (a2)), none, none, some (.int (v6)), none, none, some (.int (v9)), none, some (.int (v11))], [], h) = some (some (.int (r.1)), r.2) := by
  unfold p19_j179 at hp
  refine e_iload f19_179 rfl ?_
  refine e_istore (ls2 := [some (.ref (50)), none, none, some (.int (a2)), none, none, some (.int (v6)), some (.int (v9)), none, some (.int (v9)), none, some (.int (v11))]) f19_181 (Nat.le_of_ble_eq_true rfl) rfl ?_
  refine e_iload f19_183 rfl ?_
  refine e_istore (ls2 := [some (.ref (50)), none, none, some (.int (a2)), none, none, some (.int (v6)), some (.int (v9)), some (.int (v11)), some (.int (v9)), none, some (.int (v11))]) f19_185 (Nat.le_of_ble_eq_true rfl) rfl ?_
  refine ex_weak (ls := [some (.ref (50)), none, none, some (.int (a2)), none, none, some (.int (v6)), some (.int (v9)), some (.int (v11)), some (.int (v9)), none, none]) (le2_ok ⟨Or.inr rfl, Or.inl rfl, Or.inl rfl, Or.inr rfl, Or.inl rfl, Or.inl rfl, Or.inr rfl, Or.inr rfl, Or.inr rfl, Or.inr rfl, Or.inl rfl, Or.inl rfl, trivial⟩) ?_
  exact p19_j187_ok d F a0 a1 a2 (K129) (hK129) (h) (w) (v6) (v9) (v11) (v9) _ hp
set_option maxRecDepth 100000 in
set_option maxHeartbeats 4000000 in
theorem p19_j179_w (F : Nat) (a0 : Int32) (a1 : Int32) (a2 : Int32) (K129 : HS → Int32 → Int32 → Int32 → Int32 → Option (Int32 × HS)) (hK129 : ∀ (h : HS) (w : WF h) (u6 : Int32) (u7 : Int32) (u8 : Int32) (u9 : Int32) (r : Int32 × HS), K129 h u6 u7 u8 u9 = some r → WF r.2) (h : HS) (w : WF h) (v6 : Int32) (v9 : Int32) (v11 : Int32) (r : Int32 × HS) (hp : p19_j179 F a0 a1 a2 K129 h v6 v9 v11 = some r) : WF r.2 := by
  unfold p19_j179 at hp
  exact p19_j187_w F a0 a1 a2 (K129) (hK129) (h) (w) (v6) (v9) (v11) (v9) _ hp
set_option maxRecDepth 100000 in
set_option maxHeartbeats 4000000 in
theorem p19_L129_ok (d : Nat) (F : Nat) (a0 : Int32) (a1 : Int32) (a2 : Int32) : ∀ (n : Nat) (h : HS) (w : WF h) (v6 : Int32) (v7 : Int32) (v8 : Int32) (v9 : Int32) (r : Int32 × HS), p19_L129 F a0 a1 a2 n h v6 v7 v8 v9 = some r → ex (d + 3) 19 (129, [some (.ref (50)), none, none, some (.int (a2)), none, none, some (.int (v6)), some (.int (v7)), some (.int (v8)), some (.int (v9)), none, none], [], h) = some (some (.int (r.1)), r.2) := by
  intro n
  induction n with
  | zero => intro h w v6 v7 v8 v9 r hp; cases hp
  | succ n ih =>
    intro h w v6 v7 v8 v9 r hp
    unfold p19_L129 at hp
    refine e_iload f19_129 rfl ?_
    refine e_iload_n f19_131 rfl ?_
    by_cases hc31 : (v9) < ((a2) : Int32)
    · rw [if_pos hc31] at hp
      refine e_icmp_ge_f f19_132 hc31 ?_
      refine e_aload_n f19_135 rfl ?_
      refine e_getR f19_136 (WF.t w 50 (by decide)) rfl (WF.r (q := 56) w 50 10 (by decide)) ?_
      refine e_iload f19_139 rfl ?_
      by_cases hg32 : (v9) < (0 : Int32) ∨ 200 ≤ (v9).toNatClampNeg
      · rw [if_pos hg32] at hp; cases hp
      rw [if_neg hg32] at hp
      refine e_laload f19_141 (WF.t w 56 (by decide)) (WF.n w 56 (by decide)) hg32 ?_
      obtain ⟨r33, hr34, hp⟩ := bind_some hp
      try dsimp only at hp
      refine e_callS (st := []) (as := [.long (hL (h) (56) (v9).toNatClampNeg)]) f19_142 (by decide) rfl rfl (Nat.le_of_ble_eq_true rfl) (Nat.le_of_ble_eq_true rfl) (p307_ok (d + 2) (h) w (hL (h) (56) (v9).toNatClampNeg) r33 hr34) ?_
      show ex _ 19 (145, [some (.ref (50)), none, none, some (.int (a2)), none, none, some (.int (v6)), some (.int (v7)), some (.int (v8)), some (.int (v9)), none, none], [.int (r33)], h) = _
      refine e_istore (ls2 := [some (.ref (50)), none, none, some (.int (a2)), none, none, some (.int (v6)), some (.int (v7)), some (.int (v8)), some (.int (v9)), some (.int (r33)), none]) f19_145 (Nat.le_of_ble_eq_true rfl) rfl ?_
      refine e_iconst (v := 2) f19_147 (by decide) ?_
      refine e_iload f19_148 rfl ?_
      refine e_imul f19_150 ?_
      refine e_iload f19_151 rfl ?_
      refine e_isub f19_153 ?_
      refine e_abs f19_154 rfl (Nat.le_of_ble_eq_true rfl) ?_
      refine e_istore (ls2 := [some (.ref (50)), none, none, some (.int (a2)), none, none, some (.int (v6)), some (.int (v7)), some (.int (v8)), some (.int (v9)), some (.int (r33)), some (.int (if (0 : Int32) ≤ (((2) * (r33)) - (v6)) then (((2) * (r33)) - (v6)) else 0 - (((2) * (r33)) - (v6))))]) f19_157 (Nat.le_of_ble_eq_true rfl) rfl ?_
      refine e_iload f19_159 rfl ?_
      refine e_iload f19_161 rfl ?_
      by_cases hc35 : (r33) < ((v6) : Int32)
      · rw [if_pos hc35] at hp
        refine e_icmp_ge_f f19_163 hc35 ?_
        refine e_iload f19_166 rfl ?_
        refine e_iconst (v := -1) f19_168 (by decide) ?_
        by_cases hc36 : (v7) = (((-1)) : Int32)
        · rw [if_pos hc36] at hp
          refine e_icmp_eq_t f19_169 hc36 ?_
          refine ex_weak (ls := [some (.ref (50)), none, none, some (.int (a2)), none, none, some (.int (v6)), none, none, some (.int (v9)), none, some (.int (if (0 : Int32) ≤ (((2) * (r33)) - (v6)) then (((2) * (r33)) - (v6)) else 0 - (((2) * (r33)) - (v6))))]) (le2_ok ⟨Or.inr rfl, Or.inl rfl, Or.inl rfl, Or.inr rfl, Or.inl rfl, Or.inl rfl, Or.inr rfl, Or.inl rfl, Or.inl rfl, Or.inr rfl, Or.inl rfl, Or.inr rfl, trivial⟩) ?_
          exact p19_j179_ok d F a0 a1 a2 ((p19_L129 F a0 a1 a2 n)) (ih) (h) (w) (v6) (v9) (if (0 : Int32) ≤ (((2) * (r33)) - (v6)) then (((2) * (r33)) - (v6)) else 0 - (((2) * (r33)) - (v6))) _ hp
        · rw [if_neg hc36] at hp
          refine e_icmp_eq_f f19_169 hc36 ?_
          refine e_iload f19_172 rfl ?_
          refine e_iload f19_174 rfl ?_
          by_cases hc37 : (if (0 : Int32) ≤ (((2) * (r33)) - (v6)) then (((2) * (r33)) - (v6)) else 0 - (((2) * (r33)) - (v6))) < ((v8) : Int32)
          · rw [if_pos hc37] at hp
            refine e_icmp_ge_f f19_176 hc37 ?_
            refine ex_weak (ls := [some (.ref (50)), none, none, some (.int (a2)), none, none, some (.int (v6)), none, none, some (.int (v9)), none, some (.int (if (0 : Int32) ≤ (((2) * (r33)) - (v6)) then (((2) * (r33)) - (v6)) else 0 - (((2) * (r33)) - (v6))))]) (le2_ok ⟨Or.inr rfl, Or.inl rfl, Or.inl rfl, Or.inr rfl, Or.inl rfl, Or.inl rfl, Or.inr rfl, Or.inl rfl, Or.inl rfl, Or.inr rfl, Or.inl rfl, Or.inr rfl, trivial⟩) ?_
            exact p19_j179_ok d F a0 a1 a2 ((p19_L129 F a0 a1 a2 n)) (ih) (h) (w) (v6) (v9) (if (0 : Int32) ≤ (((2) * (r33)) - (v6)) then (((2) * (r33)) - (v6)) else 0 - (((2) * (r33)) - (v6))) _ hp
          · rw [if_neg hc37] at hp
            refine e_icmp_ge_t f19_176 hc37 ?_
            refine ex_weak (ls := [some (.ref (50)), none, none, some (.int (a2)), none, none, some (.int (v6)), some (.int (v7)), some (.int (v8)), some (.int (v9)), none, none]) (le2_ok ⟨Or.inr rfl, Or.inl rfl, Or.inl rfl, Or.inr rfl, Or.inl rfl, Or.inl rfl, Or.inr rfl, Or.inr rfl, Or.inr rfl, Or.inr rfl, Or.inl rfl, Or.inl rfl, trivial⟩) ?_
            exact p19_j187_ok d F a0 a1 a2 ((p19_L129 F a0 a1 a2 n)) (ih) (h) (w) (v6) (v7) (v8) (v9) _ hp
      · rw [if_neg hc35] at hp
        refine e_icmp_ge_t f19_163 hc35 ?_
        refine ex_weak (ls := [some (.ref (50)), none, none, some (.int (a2)), none, none, some (.int (v6)), some (.int (v7)), some (.int (v8)), some (.int (v9)), none, none]) (le2_ok ⟨Or.inr rfl, Or.inl rfl, Or.inl rfl, Or.inr rfl, Or.inl rfl, Or.inl rfl, Or.inr rfl, Or.inr rfl, Or.inr rfl, Or.inr rfl, Or.inl rfl, Or.inl rfl, trivial⟩) ?_
        exact p19_j187_ok d F a0 a1 a2 ((p19_L129 F a0 a1 a2 n)) (ih) (h) (w) (v6) (v7) (v8) (v9) _ hp
    · rw [if_neg hc31] at hp
      refine e_icmp_ge_t f19_132 hc31 ?_
      refine e_iload f19_193 rfl ?_
      have hp := Option.some.inj hp
      subst hp
      exact e_ireturn f19_195 (Or.inl rfl)
set_option maxRecDepth 100000 in
set_option maxHeartbeats 4000000 in
theorem p19_L129_w (F : Nat) (a0 : Int32) (a1 : Int32) (a2 : Int32) : ∀ (n : Nat) (h : HS) (w : WF h) (v6 : Int32) (v7 : Int32) (v8 : Int32) (v9 : Int32) (r : Int32 × HS), p19_L129 F a0 a1 a2 n h v6 v7 v8 v9 = some r → WF r.2 := by
  intro n
  induction n with
  | zero => intro h w v6 v7 v8 v9 r hp; cases hp
  | succ n ih =>
    intro h w v6 v7 v8 v9 r hp
    unfold p19_L129 at hp
    by_cases hc31 : (v9) < ((a2) : Int32)
    · rw [if_pos hc31] at hp
      by_cases hg32 : (v9) < (0 : Int32) ∨ 200 ≤ (v9).toNatClampNeg
      · rw [if_pos hg32] at hp; cases hp
      rw [if_neg hg32] at hp
      obtain ⟨r33, hr34, hp⟩ := bind_some hp
      try dsimp only at hp
      by_cases hc35 : (r33) < ((v6) : Int32)
      · rw [if_pos hc35] at hp
        by_cases hc36 : (v7) = (((-1)) : Int32)
        · rw [if_pos hc36] at hp
          exact p19_j179_w F a0 a1 a2 ((p19_L129 F a0 a1 a2 n)) (ih) (h) (w) (v6) (v9) (if (0 : Int32) ≤ (((2) * (r33)) - (v6)) then (((2) * (r33)) - (v6)) else 0 - (((2) * (r33)) - (v6))) _ hp
        · rw [if_neg hc36] at hp
          by_cases hc37 : (if (0 : Int32) ≤ (((2) * (r33)) - (v6)) then (((2) * (r33)) - (v6)) else 0 - (((2) * (r33)) - (v6))) < ((v8) : Int32)
          · rw [if_pos hc37] at hp
            exact p19_j179_w F a0 a1 a2 ((p19_L129 F a0 a1 a2 n)) (ih) (h) (w) (v6) (v9) (if (0 : Int32) ≤ (((2) * (r33)) - (v6)) then (((2) * (r33)) - (v6)) else 0 - (((2) * (r33)) - (v6))) _ hp
          · rw [if_neg hc37] at hp
            exact p19_j187_w F a0 a1 a2 ((p19_L129 F a0 a1 a2 n)) (ih) (h) (w) (v6) (v7) (v8) (v9) _ hp
      · rw [if_neg hc35] at hp
        exact p19_j187_w F a0 a1 a2 ((p19_L129 F a0 a1 a2 n)) (ih) (h) (w) (v6) (v7) (v8) (v9) _ hp
    · rw [if_neg hc31] at hp
      have hp := Option.some.inj hp
      subst hp
      exact (w)
set_option maxRecDepth 100000 in
set_option maxHeartbeats 4000000 in
theorem p19_L27_ok (d : Nat) (F : Nat) (a0 : Int32) (a1 : Int32) (a2 : Int32) : ∀ (n : Nat) (h : HS) (w : WF h) (v6 : Int32) (v7 : Int32) (r : Int32 × HS), p19_L27 F a0 a1 a2 n h v6 v7 = some r → ex (d + 3) 19 (27, [some (.ref (50)), some (.int (a0)), some (.int (a1)), some (.int (a2)), none, none, some (.int (v6)), some (.int (v7)), none, none, none, none], [], h) = some (some (.int (r.1)), r.2) := by
  intro n
  induction n with
  | zero => intro h w v6 v7 r hp; cases hp
  | succ n ih =>
    intro h w v6 v7 r hp
    unfold p19_L27 at hp
    refine e_iload f19_27 rfl ?_
    refine e_aload_n f19_29 rfl ?_
    refine e_getI f19_30 (WF.t w 50 (by decide)) (by decide) ?_
    by_cases hc7 : (v7) < ((hI (h) (50) 3) : Int32)
    · rw [if_pos hc7] at hp
      refine e_icmp_ge_f f19_33 hc7 ?_
      refine e_aload_n f19_36 rfl ?_
      refine e_getR f19_37 (WF.t w 50 (by decide)) rfl (WF.r (q := 54) w 50 8 (by decide)) ?_
      refine e_iload f19_40 rfl ?_
      by_cases hg8 : (v7) < (0 : Int32) ∨ 200 ≤ (v7).toNatClampNeg
      · rw [if_pos hg8] at hp; cases hp
      rw [if_neg hg8] at hp
      refine e_aaload f19_42 (Or.inr (Or.inr (Or.inr (WF.t w 54 (by decide))))) (WF.n w 54 (by decide)) hg8 ?_
      refine e_qstore (ls2 := [some (.ref (50)), some (.int (a0)), some (.int (a1)), some (.int (a2)), none, none, some (.int (v6)), some (.int (v7)), some (va_rf (hR (h) (54) (v7).toNatClampNeg)), none, none, none]) f19_43 (Nat.le_of_ble_eq_true rfl) rfl ?_
      refine e_qload f19_45 rfl ?_
      obtain ⟨o9, ho10, hp⟩ := bind_some hp
      try dsimp only at hp
      rw [ho10]
      by_cases hg11 : hT (h) (o9) = 5
      rotate_left
      · rw [if_neg hg11] at hp; cases hp
      rw [if_pos hg11] at hp
      refine e_getI f19_47 hg11 (by decide) ?_
      refine e_iload_n f19_50 rfl ?_
      by_cases hc12 : (hI (h) (o9) 3) = ((a0) : Int32)
      · rw [if_pos hc12] at hp
        refine e_icmp_ne_f f19_51 hc12 ?_
        refine e_aload f19_54 rfl ?_
        refine e_getI f19_56 hg11 (by decide) ?_
        refine e_sipush (v := 4000) f19_59 (by decide) ?_
        by_cases hc13 : (hI (h) (o9) 2) = ((4000) : Int32)
        · rw [if_pos hc13] at hp
          refine e_icmp_ne_f f19_62 hc13 ?_
          refine e_aload f19_65 rfl ?_
          refine e_getQ f19_67 hg11 rfl ?_
          by_cases hc14 : (hR (h) (o9) 0) = none
          · rw [if_pos hc14] at hp
            rw [hc14]
            refine e_ifnull_t f19_70 ?_
            refine ex_weak (ls := [some (.ref (50)), some (.int (a0)), some (.int (a1)), some (.int (a2)), none, none, some (.int (v6)), some (.int (v7)), none, none, none, none]) (le2_ok ⟨Or.inr rfl, Or.inr rfl, Or.inr rfl, Or.inr rfl, Or.inl rfl, Or.inl rfl, Or.inr rfl, Or.inr rfl, Or.inl rfl, Or.inl rfl, Or.inl rfl, Or.inl rfl, trivial⟩) ?_
            exact p19_j114_ok d F a0 a1 a2 ((p19_L27 F a0 a1 a2 n)) (ih) (h) (w) (v6) (v7) _ hp
          · rw [if_neg hc14] at hp
            obtain ⟨o15, ho16, hp⟩ := bind_some hp
            try dsimp only at hp
            rw [ho16]
            refine e_ifnull_f f19_70 ?_
            refine e_aload f19_73 rfl ?_
            refine e_getQ f19_75 hg11 rfl ?_
            obtain ⟨o17, ho18, hp⟩ := bind_some hp
            try dsimp only at hp
            rw [ho18]
            by_cases hg19 : hT (h) (o17) = 9
            rotate_left
            · rw [if_neg hg19] at hp; cases hp
            rw [if_pos hg19] at hp
            refine e_getI f19_78 hg19 (by decide) ?_
            refine e_sipush (v := 4000) f19_81 (by decide) ?_
            by_cases hc20 : (hI (h) (o17) 2) = ((4000) : Int32)
            · rw [if_pos hc20] at hp
              refine e_icmp_ne_f f19_84 hc20 ?_
              refine e_aload_n f19_87 rfl ?_
              refine e_getR f19_88 (WF.t w 50 (by decide)) rfl (WF.r (q := 56) w 50 10 (by decide)) ?_
              refine e_aload f19_91 rfl ?_
              refine e_getQ f19_93 hg11 rfl ?_
              obtain ⟨o21, ho22, hp⟩ := bind_some hp
              try dsimp only at hp
              rw [ho22]
              by_cases hg23 : hT (h) (o21) = 9
              rotate_left
              · rw [if_neg hg23] at hp; cases hp
              rw [if_pos hg23] at hp
              refine e_getI f19_96 hg23 (by decide) ?_
              refine e_dup2 f19_99 rfl rfl ?_
              by_cases hg24 : (hI (h) (o21) 0) < (0 : Int32) ∨ 200 ≤ (hI (h) (o21) 0).toNatClampNeg
              · rw [if_pos hg24] at hp; cases hp
              rw [if_neg hg24] at hp
              refine e_laload f19_100 (WF.t w 56 (by decide)) (WF.n w 56 (by decide)) hg24 ?_
              refine e_aload_n f19_101 rfl ?_
              refine e_aload f19_102 rfl ?_
              refine e_iload_n f19_104 rfl ?_
              obtain ⟨r25, hr26, hp⟩ := bind_some hp
              try dsimp only at hp
              refine e_callV (st := [.long (hL (h) (56) (hI (h) (o21) 0).toNatClampNeg), .int (hI (h) (o21) 0), .ref (56)]) (o := 50) (as := [.ref (o9), .int (a1)]) f19_105 (by decide) rfl rfl (Nat.le_of_ble_eq_true rfl) (WF.t w 50 (by decide)) (Nat.le_of_ble_eq_true rfl) (p11_ok (d + 1) F (h) w (some (o9)) (a1) r25 hr26) ?_
              show ex _ 19 (108, [some (.ref (50)), some (.int (a0)), some (.int (a1)), some (.int (a2)), none, none, some (.int (v6)), some (.int (v7)), some (.ref (o9)), none, none, none], [.long (r25), .long (hL (h) (56) (hI (h) (o21) 0).toNatClampNeg), .int (hI (h) (o21) 0), .ref (56)], h) = _
              refine e_ldc2 (v := -1) f19_108 (by decide) ?_
              refine e_lxor f19_111 ?_
              refine e_land f19_112 ?_
              by_cases hg27 : (hI (h) (o21) 0) < (0 : Int32) ∨ 200 ≤ (hI (h) (o21) 0).toNatClampNeg
              · rw [if_pos hg27] at hp; cases hp
              rw [if_neg hg27] at hp
              refine e_lastore f19_113 (WF.t w 56 (by decide)) (WF.n w 56 (by decide)) hg27 ?_
              obtain ⟨h28, e29, hp⟩ := bind_some hp
              try dsimp only at hp
              have e29 := Option.some.inj e29
              have w30 : WF h28 := e29 ▸ w
              rw [e29]
              refine ex_weak (ls := [some (.ref (50)), some (.int (a0)), some (.int (a1)), some (.int (a2)), none, none, some (.int (v6)), some (.int (v7)), none, none, none, none]) (le2_ok ⟨Or.inr rfl, Or.inr rfl, Or.inr rfl, Or.inr rfl, Or.inl rfl, Or.inl rfl, Or.inr rfl, Or.inr rfl, Or.inl rfl, Or.inl rfl, Or.inl rfl, Or.inl rfl, trivial⟩) ?_
              exact p19_j114_ok d F a0 a1 a2 ((p19_L27 F a0 a1 a2 n)) (ih) (h28) (w30) (v6) (v7) _ hp
            · rw [if_neg hc20] at hp
              refine e_icmp_ne_t f19_84 hc20 ?_
              refine ex_weak (ls := [some (.ref (50)), some (.int (a0)), some (.int (a1)), some (.int (a2)), none, none, some (.int (v6)), some (.int (v7)), none, none, none, none]) (le2_ok ⟨Or.inr rfl, Or.inr rfl, Or.inr rfl, Or.inr rfl, Or.inl rfl, Or.inl rfl, Or.inr rfl, Or.inr rfl, Or.inl rfl, Or.inl rfl, Or.inl rfl, Or.inl rfl, trivial⟩) ?_
              exact p19_j114_ok d F a0 a1 a2 ((p19_L27 F a0 a1 a2 n)) (ih) (h) (w) (v6) (v7) _ hp
        · rw [if_neg hc13] at hp
          refine e_icmp_ne_t f19_62 hc13 ?_
          refine ex_weak (ls := [some (.ref (50)), some (.int (a0)), some (.int (a1)), some (.int (a2)), none, none, some (.int (v6)), some (.int (v7)), none, none, none, none]) (le2_ok ⟨Or.inr rfl, Or.inr rfl, Or.inr rfl, Or.inr rfl, Or.inl rfl, Or.inl rfl, Or.inr rfl, Or.inr rfl, Or.inl rfl, Or.inl rfl, Or.inl rfl, Or.inl rfl, trivial⟩) ?_
          exact p19_j114_ok d F a0 a1 a2 ((p19_L27 F a0 a1 a2 n)) (ih) (h) (w) (v6) (v7) _ hp
      · rw [if_neg hc12] at hp
        refine e_icmp_ne_t f19_51 hc12 ?_
        refine ex_weak (ls := [some (.ref (50)), some (.int (a0)), some (.int (a1)), some (.int (a2)), none, none, some (.int (v6)), some (.int (v7)), none, none, none, none]) (le2_ok ⟨Or.inr rfl, Or.inr rfl, Or.inr rfl, Or.inr rfl, Or.inl rfl, Or.inl rfl, Or.inr rfl, Or.inr rfl, Or.inl rfl, Or.inl rfl, Or.inl rfl, Or.inl rfl, trivial⟩) ?_
        exact p19_j114_ok d F a0 a1 a2 ((p19_L27 F a0 a1 a2 n)) (ih) (h) (w) (v6) (v7) _ hp
    · rw [if_neg hc7] at hp
      refine e_icmp_ge_t f19_33 hc7 ?_
      refine e_iconst (v := -1) f19_120 (by decide) ?_
      refine e_istore (ls2 := [some (.ref (50)), some (.int (a0)), some (.int (a1)), some (.int (a2)), none, none, some (.int (v6)), some (.int ((-1))), none, none, none, none]) f19_121 (Nat.le_of_ble_eq_true rfl) rfl ?_
      refine e_iconst (v := 0) f19_123 (by decide) ?_
      refine e_istore (ls2 := [some (.ref (50)), some (.int (a0)), some (.int (a1)), some (.int (a2)), none, none, some (.int (v6)), some (.int ((-1))), some (.int (0)), none, none, none]) f19_124 (Nat.le_of_ble_eq_true rfl) rfl ?_
      refine e_iconst (v := 0) f19_126 (by decide) ?_
      refine e_istore (ls2 := [some (.ref (50)), some (.int (a0)), some (.int (a1)), some (.int (a2)), none, none, some (.int (v6)), some (.int ((-1))), some (.int (0)), some (.int (0)), none, none]) f19_127 (Nat.le_of_ble_eq_true rfl) rfl ?_
      refine ex_weak (ls := [some (.ref (50)), none, none, some (.int (a2)), none, none, some (.int (v6)), some (.int ((-1))), some (.int (0)), some (.int (0)), none, none]) (le2_ok ⟨Or.inr rfl, Or.inl rfl, Or.inl rfl, Or.inr rfl, Or.inl rfl, Or.inl rfl, Or.inr rfl, Or.inr rfl, Or.inr rfl, Or.inr rfl, Or.inl rfl, Or.inl rfl, trivial⟩) ?_
      exact p19_L129_ok d F a0 a1 a2 F (h) (w) (v6) ((-1)) (0) (0) _ hp
set_option maxRecDepth 100000 in
set_option maxHeartbeats 4000000 in
theorem p19_L27_w (F : Nat) (a0 : Int32) (a1 : Int32) (a2 : Int32) : ∀ (n : Nat) (h : HS) (w : WF h) (v6 : Int32) (v7 : Int32) (r : Int32 × HS), p19_L27 F a0 a1 a2 n h v6 v7 = some r → WF r.2 := by
  intro n
  induction n with
  | zero => intro h w v6 v7 r hp; cases hp
  | succ n ih =>
    intro h w v6 v7 r hp
    unfold p19_L27 at hp
    by_cases hc7 : (v7) < ((hI (h) (50) 3) : Int32)
    · rw [if_pos hc7] at hp
      by_cases hg8 : (v7) < (0 : Int32) ∨ 200 ≤ (v7).toNatClampNeg
      · rw [if_pos hg8] at hp; cases hp
      rw [if_neg hg8] at hp
      obtain ⟨o9, ho10, hp⟩ := bind_some hp
      try dsimp only at hp
      by_cases hg11 : hT (h) (o9) = 5
      rotate_left
      · rw [if_neg hg11] at hp; cases hp
      rw [if_pos hg11] at hp
      by_cases hc12 : (hI (h) (o9) 3) = ((a0) : Int32)
      · rw [if_pos hc12] at hp
        by_cases hc13 : (hI (h) (o9) 2) = ((4000) : Int32)
        · rw [if_pos hc13] at hp
          by_cases hc14 : (hR (h) (o9) 0) = none
          · rw [if_pos hc14] at hp
            exact p19_j114_w F a0 a1 a2 ((p19_L27 F a0 a1 a2 n)) (ih) (h) (w) (v6) (v7) _ hp
          · rw [if_neg hc14] at hp
            obtain ⟨o15, ho16, hp⟩ := bind_some hp
            try dsimp only at hp
            obtain ⟨o17, ho18, hp⟩ := bind_some hp
            try dsimp only at hp
            by_cases hg19 : hT (h) (o17) = 9
            rotate_left
            · rw [if_neg hg19] at hp; cases hp
            rw [if_pos hg19] at hp
            by_cases hc20 : (hI (h) (o17) 2) = ((4000) : Int32)
            · rw [if_pos hc20] at hp
              obtain ⟨o21, ho22, hp⟩ := bind_some hp
              try dsimp only at hp
              by_cases hg23 : hT (h) (o21) = 9
              rotate_left
              · rw [if_neg hg23] at hp; cases hp
              rw [if_pos hg23] at hp
              by_cases hg24 : (hI (h) (o21) 0) < (0 : Int32) ∨ 200 ≤ (hI (h) (o21) 0).toNatClampNeg
              · rw [if_pos hg24] at hp; cases hp
              rw [if_neg hg24] at hp
              obtain ⟨r25, hr26, hp⟩ := bind_some hp
              try dsimp only at hp
              by_cases hg27 : (hI (h) (o21) 0) < (0 : Int32) ∨ 200 ≤ (hI (h) (o21) 0).toNatClampNeg
              · rw [if_pos hg27] at hp; cases hp
              rw [if_neg hg27] at hp
              obtain ⟨h28, e29, hp⟩ := bind_some hp
              try dsimp only at hp
              have e29 := Option.some.inj e29
              have w30 : WF h28 := e29 ▸ w
              exact p19_j114_w F a0 a1 a2 ((p19_L27 F a0 a1 a2 n)) (ih) (h28) (w30) (v6) (v7) _ hp
            · rw [if_neg hc20] at hp
              exact p19_j114_w F a0 a1 a2 ((p19_L27 F a0 a1 a2 n)) (ih) (h) (w) (v6) (v7) _ hp
        · rw [if_neg hc13] at hp
          exact p19_j114_w F a0 a1 a2 ((p19_L27 F a0 a1 a2 n)) (ih) (h) (w) (v6) (v7) _ hp
      · rw [if_neg hc12] at hp
        exact p19_j114_w F a0 a1 a2 ((p19_L27 F a0 a1 a2 n)) (ih) (h) (w) (v6) (v7) _ hp
    · rw [if_neg hc7] at hp
      exact p19_L129_w F a0 a1 a2 F (h) (w) (v6) ((-1)) (0) (0) _ hp
set_option maxRecDepth 100000 in
set_option maxHeartbeats 4000000 in
theorem p19_ok (d : Nat) (F : Nat) (h : HS) (w : WF h) (a0 : Int32) (a1 : Int32) (a2 : Int32) (r : Int32 × HS) (hp : p19 F h a0 a1 a2 = some r) : ex (d + 3) 19 (ent 19 [.ref (50), .int (a0), .int (a1), .int (a2)] h) = some (some (.int (r.1)), r.2) := by
  rw [show ent 19 [.ref (50), .int (a0), .int (a1), .int (a2)] h = (0, [some (.ref (50)), some (.int (a0)), some (.int (a1)), some (.int (a2)), none, none, none, none, none, none, none, none], [], h) from by  rfl]
  refine ex_weak (ls := [some (.ref (50)), some (.int (a0)), some (.int (a1)), some (.int (a2)), none, none, none, none, none, none, none, none]) (le2_ok ⟨Or.inr rfl, Or.inr rfl, Or.inr rfl, Or.inr rfl, Or.inr rfl, Or.inr rfl, Or.inr rfl, Or.inr rfl, Or.inr rfl, Or.inr rfl, Or.inr rfl, Or.inr rfl, trivial⟩) ?_
  unfold p19 at hp
  refine e_aload_n f19_0 rfl ?_
  refine e_iload_n f19_1 rfl ?_
  refine e_iload_n f19_2 rfl ?_
  obtain ⟨r1, hr2, hp⟩ := bind_some hp
  try dsimp only at hp
  refine e_callV (st := []) (o := 50) (as := [.int (a0), .int (a1)]) f19_3 (by decide) rfl rfl (Nat.le_of_ble_eq_true rfl) (WF.t w 50 (by decide)) (Nat.le_of_ble_eq_true rfl) (p13_ok d F (h) w (a0) (a1) r1 hr2) ?_
  show ex _ 19 (6, [some (.ref (50)), some (.int (a0)), some (.int (a1)), some (.int (a2)), none, none, none, none, none, none, none, none], [.long (r1)], h) = _
  refine e_lstore (ls2 := [some (.ref (50)), some (.int (a0)), some (.int (a1)), some (.int (a2)), some (.long (r1)), none, none, none, none, none, none, none]) f19_6 (Nat.le_of_ble_eq_true rfl) rfl ?_
  refine e_lload f19_8 rfl ?_
  obtain ⟨r3, hr4, hp⟩ := bind_some hp
  try dsimp only at hp
  refine e_callS (st := []) (as := [.long (r1)]) f19_10 (by decide) rfl rfl (Nat.le_of_ble_eq_true rfl) (Nat.le_of_ble_eq_true rfl) (p307_ok (d + 2) (h) w (r1) r3 hr4) ?_
  show ex _ 19 (13, [some (.ref (50)), some (.int (a0)), some (.int (a1)), some (.int (a2)), some (.long (r1)), none, none, none, none, none, none, none], [.int (r3)], h) = _
  refine e_istore (ls2 := [some (.ref (50)), some (.int (a0)), some (.int (a1)), some (.int (a2)), some (.long (r1)), none, some (.int (r3)), none, none, none, none, none]) f19_13 (Nat.le_of_ble_eq_true rfl) rfl ?_
  refine e_aload_n f19_15 rfl ?_
  refine e_getR f19_16 (WF.t w 50 (by decide)) rfl (WF.r (q := 56) w 50 10 (by decide)) ?_
  refine e_lload f19_19 rfl ?_
  obtain ⟨r5, hr6, hp⟩ := bind_some hp
  try dsimp only at hp
  refine e_callS (st := []) (as := [.ref (56), .long (r1)]) f19_21 (by decide) rfl rfl (Nat.le_of_ble_eq_true rfl) (Nat.le_of_ble_eq_true rfl) (p311_ok (d + 2) F (h) w (some (56)) (r1) r5 hr6) ?_
  show ex _ 19 (24, [some (.ref (50)), some (.int (a0)), some (.int (a1)), some (.int (a2)), some (.long (r1)), none, some (.int (r3)), none, none, none, none, none], [], r5) = _
  refine e_iconst (v := 0) f19_24 (by decide) ?_
  refine e_istore (ls2 := [some (.ref (50)), some (.int (a0)), some (.int (a1)), some (.int (a2)), some (.long (r1)), none, some (.int (r3)), some (.int (0)), none, none, none, none]) f19_25 (Nat.le_of_ble_eq_true rfl) rfl ?_
  refine ex_weak (ls := [some (.ref (50)), some (.int (a0)), some (.int (a1)), some (.int (a2)), none, none, some (.int (r3)), some (.int (0)), none, none, none, none]) (le2_ok ⟨Or.inr rfl, Or.inr rfl, Or.inr rfl, Or.inr rfl, Or.inl rfl, Or.inl rfl, Or.inr rfl, Or.inr rfl, Or.inl rfl, Or.inl rfl, Or.inl rfl, Or.inl rfl, trivial⟩) ?_
  exact p19_L27_ok d F a0 a1 a2 F (r5) ((p311_w F (h) w (some (56)) (r1)  r5 hr6)) (r3) (0) _ hp
set_option maxRecDepth 100000 in
set_option maxHeartbeats 4000000 in
theorem p19_w (F : Nat) (h : HS) (w : WF h) (a0 : Int32) (a1 : Int32) (a2 : Int32) (r : Int32 × HS) (hp : p19 F h a0 a1 a2 = some r) : WF r.2 := by
  unfold p19 at hp
  obtain ⟨r1, hr2, hp⟩ := bind_some hp
  try dsimp only at hp
  obtain ⟨r3, hr4, hp⟩ := bind_some hp
  try dsimp only at hp
  obtain ⟨r5, hr6, hp⟩ := bind_some hp
  try dsimp only at hp
  exact p19_L27_w F a0 a1 a2 F (r5) ((p311_w F (h) w (some (56)) (r1)  r5 hr6)) (r3) (0) _ hp
theorem f20_0 : fetch 20 0 = some (.aload_n 0, 0, 0, 0) := rfl
theorem f20_1 : fetch 20 1 = some (.invokevirtual 85, 10, 0, 0) := rfl
theorem f20_4 : fetch 20 4 = some (.aload_n 0, 0, 0, 0) := rfl
theorem f20_5 : fetch 20 5 = some (.aload_n 0, 0, 0, 0) := rfl
theorem f20_6 : fetch 20 6 = some (.getfield 24, 0, 8, 2) := rfl
theorem f20_9 : fetch 20 9 = some (.iload_n 1, 0, 0, 0) := rfl
theorem f20_10 : fetch 20 10 = some (.aaload, 0, 0, 0) := rfl
theorem f20_11 : fetch 20 11 = some (.iload_n 2, 0, 0, 0) := rfl
theorem f20_12 : fetch 20 12 = some (.invokevirtual 81, 11, 2, 0) := rfl
theorem f20_15 : fetch 20 15 = some (.ldc2_w 76, 0, 0, -1) := rfl
theorem f20_18 : fetch 20 18 = some (.lxor, 0, 0, 0) := rfl
theorem f20_19 : fetch 20 19 = some (.land, 0, 0, 0) := rfl
theorem f20_20 : fetch 20 20 = some (.lconst 0, 0, 0, 0) := rfl
theorem f20_21 : fetch 20 21 = some (.lcmp, 0, 0, 0) := rfl
theorem f20_22 : fetch 20 22 = some (.ifCond .ne 7, 29, 0, 0) := rfl
theorem f20_25 : fetch 20 25 = some (.iconst 1, 0, 0, 0) := rfl
theorem f20_26 : fetch 20 26 = some (.goto 4, 30, 0, 0) := rfl
theorem f20_29 : fetch 20 29 = some (.iconst 0, 0, 0, 0) := rfl
theorem f20_30 : fetch 20 30 = some (.ireturn, 0, 0, 1) := rfl
set_option maxRecDepth 100000 in
set_option maxHeartbeats 4000000 in
theorem p20_ok (d : Nat) (F : Nat) (h : HS) (w : WF h) (a0 : Int32) (a1 : Int32) (r : Int32) (hp : p20 F h a0 a1 = some r) : ex (d + 2) 20 (ent 20 [.ref (50), .int (a0), .int (a1)] h) = some (some (.int (r)), h) := by
  rw [show ent 20 [.ref (50), .int (a0), .int (a1)] h = (0, [some (.ref (50)), some (.int (a0)), some (.int (a1))], [], h) from by  rfl]
  refine ex_weak (ls := [some (.ref (50)), some (.int (a0)), some (.int (a1))]) (le2_ok ⟨Or.inr rfl, Or.inr rfl, Or.inr rfl, trivial⟩) ?_
  unfold p20 at hp
  refine e_aload_n f20_0 rfl ?_
  obtain ⟨r1, hr2, hp⟩ := bind_some hp
  try dsimp only at hp
  refine e_callV (st := []) (o := 50) (as := []) f20_1 (by decide) rfl rfl (Nat.le_of_ble_eq_true rfl) (WF.t w 50 (by decide)) (Nat.le_of_ble_eq_true rfl) (p10_ok (d + 1) (h) w r1 hr2) ?_
  show ex _ 20 (4, [some (.ref (50)), some (.int (a0)), some (.int (a1))], [.long (r1)], h) = _
  refine e_aload_n f20_4 rfl ?_
  refine e_aload_n f20_5 rfl ?_
  refine e_getR f20_6 (WF.t w 50 (by decide)) rfl (WF.r (q := 54) w 50 8 (by decide)) ?_
  refine e_iload_n f20_9 rfl ?_
  by_cases hg3 : (a0) < (0 : Int32) ∨ 200 ≤ (a0).toNatClampNeg
  · rw [if_pos hg3] at hp; cases hp
  rw [if_neg hg3] at hp
  refine e_aaload f20_10 (Or.inr (Or.inr (Or.inr (WF.t w 54 (by decide))))) (WF.n w 54 (by decide)) hg3 ?_
  refine e_iload_n f20_11 rfl ?_
  obtain ⟨r4, hr5, hp⟩ := bind_some hp
  try dsimp only at hp
  refine e_callV (st := [.long (r1)]) (o := 50) (as := [va_rf (hR (h) (54) (a0).toNatClampNeg), .int (a1)]) f20_12 (by decide) rfl rfl (Nat.le_of_ble_eq_true rfl) (WF.t w 50 (by decide)) (by cases (hR (h) (54) (a0).toNatClampNeg) <;> exact Nat.le_of_ble_eq_true rfl) (p11_ok d F (h) w (hR (h) (54) (a0).toNatClampNeg) (a1) r4 hr5) ?_
  show ex _ 20 (15, [some (.ref (50)), some (.int (a0)), some (.int (a1))], [.long (r4), .long (r1)], h) = _
  refine e_ldc2 (v := -1) f20_15 (by decide) ?_
  refine e_lxor f20_18 ?_
  refine e_land f20_19 ?_
  refine e_lconst (v := 0) f20_20 (by decide) ?_
  refine e_lcmp f20_21 ?_
  by_cases hc6 : (lg_cmp ((r1) &&& ((r4) ^^^ ((-1 : Int64)))) ((0 : Int64))) = (0 : Int32)
  · rw [if_pos hc6] at hp
    refine e_if_ne_f f20_22 hc6 ?_
    refine e_iconst (v := 1) f20_25 (by decide) ?_
    refine e_goto f20_26 ?_
    have hp := Option.some.inj hp
    subst hp
    exact e_ireturn f20_30 (by decide)
  · rw [if_neg hc6] at hp
    refine e_if_ne_t f20_22 hc6 ?_
    refine e_iconst (v := 0) f20_29 (by decide) ?_
    have hp := Option.some.inj hp
    subst hp
    exact e_ireturn f20_30 (by decide)
theorem f71_0 : fetch 71 0 = some (.aload_n 0, 0, 0, 0) := rfl
theorem f71_1 : fetch 71 1 = some (.getfield 30, 5, 5, 0) := rfl
theorem f71_4 : fetch 71 4 = some (.aload_n 1, 0, 0, 0) := rfl
theorem f71_5 : fetch 71 5 = some (.getfield 30, 5, 5, 0) := rfl
theorem f71_8 : fetch 71 8 = some (.if_icmp .ne 40, 48, 0, 0) := rfl
theorem f71_11 : fetch 71 11 = some (.aload_n 0, 0, 0, 0) := rfl
theorem f71_12 : fetch 71 12 = some (.getfield 33, 5, 4, 0) := rfl
theorem f71_15 : fetch 71 15 = some (.aload_n 1, 0, 0, 0) := rfl
theorem f71_16 : fetch 71 16 = some (.getfield 33, 5, 4, 0) := rfl
theorem f71_19 : fetch 71 19 = some (.if_icmp .ne 29, 48, 0, 0) := rfl
theorem f71_22 : fetch 71 22 = some (.aload_n 0, 0, 0, 0) := rfl
theorem f71_23 : fetch 71 23 = some (.getfield 36, 5, 6, 0) := rfl
theorem f71_26 : fetch 71 26 = some (.aload_n 1, 0, 0, 0) := rfl
theorem f71_27 : fetch 71 27 = some (.getfield 36, 5, 6, 0) := rfl
theorem f71_30 : fetch 71 30 = some (.if_icmp .ne 18, 48, 0, 0) := rfl
theorem f71_33 : fetch 71 33 = some (.aload_n 0, 0, 0, 0) := rfl
theorem f71_34 : fetch 71 34 = some (.getfield 39, 5, 8, 0) := rfl
theorem f71_37 : fetch 71 37 = some (.aload_n 1, 0, 0, 0) := rfl
theorem f71_38 : fetch 71 38 = some (.getfield 39, 5, 8, 0) := rfl
theorem f71_41 : fetch 71 41 = some (.if_icmp .ne 7, 48, 0, 0) := rfl
theorem f71_44 : fetch 71 44 = some (.iconst 1, 0, 0, 0) := rfl
theorem f71_45 : fetch 71 45 = some (.goto 4, 49, 0, 0) := rfl
theorem f71_48 : fetch 71 48 = some (.iconst 0, 0, 0, 0) := rfl
theorem f71_49 : fetch 71 49 = some (.ireturn, 0, 0, 1) := rfl
set_option maxRecDepth 100000 in
set_option maxHeartbeats 4000000 in
theorem p71_ok (d : Nat) (h : HS) (w : WF h) (o : Nat) (a0 : Option Nat) (ho : hT h o = 5) (r : Int32) (hp : p71 h o a0 = some r) : ex (d + 0) 71 (ent 71 [.ref (o), va_rf (a0)] h) = some (some (.int (r)), h) := by
  rw [show ent 71 [.ref (o), va_rf (a0)] h = (0, [some (.ref (o)), some (va_rf (a0))], [], h) from by cases a0 <;> rfl]
  refine ex_weak (ls := [some (.ref (o)), some (va_rf (a0))]) (le2_ok ⟨Or.inr rfl, Or.inr rfl, trivial⟩) ?_
  unfold p71 at hp
  refine e_aload_n f71_0 rfl ?_
  refine e_getI f71_1 ho (by decide) ?_
  refine e_qload_n f71_4 rfl ?_
  obtain ⟨o1, ho2, hp⟩ := bind_some hp
  try dsimp only at hp
  rw [ho2]
  by_cases hg3 : hT (h) (o1) = 5
  rotate_left
  · rw [if_neg hg3] at hp; cases hp
  rw [if_pos hg3] at hp
  refine e_getI f71_5 hg3 (by decide) ?_
  by_cases hc4 : (hI (h) (o) 5) = ((hI (h) (o1) 5) : Int32)
  · rw [if_pos hc4] at hp
    refine e_icmp_ne_f f71_8 hc4 ?_
    refine e_aload_n f71_11 rfl ?_
    refine e_getI f71_12 ho (by decide) ?_
    refine e_aload_n f71_15 rfl ?_
    refine e_getI f71_16 hg3 (by decide) ?_
    by_cases hc5 : (hI (h) (o) 4) = ((hI (h) (o1) 4) : Int32)
    · rw [if_pos hc5] at hp
      refine e_icmp_ne_f f71_19 hc5 ?_
      refine e_aload_n f71_22 rfl ?_
      refine e_getI f71_23 ho (by decide) ?_
      refine e_aload_n f71_26 rfl ?_
      refine e_getI f71_27 hg3 (by decide) ?_
      by_cases hc6 : (hI (h) (o) 6) = ((hI (h) (o1) 6) : Int32)
      · rw [if_pos hc6] at hp
        refine e_icmp_ne_f f71_30 hc6 ?_
        refine e_aload_n f71_33 rfl ?_
        refine e_getI f71_34 ho (by decide) ?_
        refine e_aload_n f71_37 rfl ?_
        refine e_getI f71_38 hg3 (by decide) ?_
        by_cases hc7 : (hI (h) (o) 8) = ((hI (h) (o1) 8) : Int32)
        · rw [if_pos hc7] at hp
          refine e_icmp_ne_f f71_41 hc7 ?_
          refine e_iconst (v := 1) f71_44 (by decide) ?_
          refine e_goto f71_45 ?_
          have hp := Option.some.inj hp
          subst hp
          exact e_ireturn f71_49 (by decide)
        · rw [if_neg hc7] at hp
          refine e_icmp_ne_t f71_41 hc7 ?_
          refine e_iconst (v := 0) f71_48 (by decide) ?_
          have hp := Option.some.inj hp
          subst hp
          exact e_ireturn f71_49 (by decide)
      · rw [if_neg hc6] at hp
        refine e_icmp_ne_t f71_30 hc6 ?_
        refine e_iconst (v := 0) f71_48 (by decide) ?_
        have hp := Option.some.inj hp
        subst hp
        exact e_ireturn f71_49 (by decide)
    · rw [if_neg hc5] at hp
      refine e_icmp_ne_t f71_19 hc5 ?_
      refine e_iconst (v := 0) f71_48 (by decide) ?_
      have hp := Option.some.inj hp
      subst hp
      exact e_ireturn f71_49 (by decide)
  · rw [if_neg hc4] at hp
    refine e_icmp_ne_t f71_8 hc4 ?_
    refine e_iconst (v := 0) f71_48 (by decide) ?_
    have hp := Option.some.inj hp
    subst hp
    exact e_ireturn f71_49 (by decide)
theorem f21_0 : fetch 21 0 = some (.aload_n 0, 0, 0, 0) := rfl
theorem f21_1 : fetch 21 1 = some (.getfield 24, 0, 8, 2) := rfl
theorem f21_4 : fetch 21 4 = some (.iload_n 1, 0, 0, 0) := rfl
theorem f21_5 : fetch 21 5 = some (.aaload, 0, 0, 0) := rfl
theorem f21_6 : fetch 21 6 = some (.astore_n 3, 0, 0, 0) := rfl
theorem f21_7 : fetch 21 7 = some (.iconst (-1), 0, 0, 0) := rfl
theorem f21_8 : fetch 21 8 = some (.istore 4, 0, 0, 0) := rfl
theorem f21_10 : fetch 21 10 = some (.iconst 0, 0, 0, 0) := rfl
theorem f21_11 : fetch 21 11 = some (.istore 5, 0, 0, 0) := rfl
theorem f21_13 : fetch 21 13 = some (.iconst 0, 0, 0, 0) := rfl
theorem f21_14 : fetch 21 14 = some (.istore 6, 0, 0, 0) := rfl
theorem f21_16 : fetch 21 16 = some (.iload 6, 0, 0, 0) := rfl
theorem f21_18 : fetch 21 18 = some (.aload_n 0, 0, 0, 0) := rfl
theorem f21_19 : fetch 21 19 = some (.getfield 48, 0, 3, 0) := rfl
theorem f21_22 : fetch 21 22 = some (.if_icmp .ge 117, 139, 0, 0) := rfl
theorem f21_25 : fetch 21 25 = some (.aload_n 0, 0, 0, 0) := rfl
theorem f21_26 : fetch 21 26 = some (.getfield 24, 0, 8, 2) := rfl
theorem f21_29 : fetch 21 29 = some (.iload 6, 0, 0, 0) := rfl
theorem f21_31 : fetch 21 31 = some (.aaload, 0, 0, 0) := rfl
theorem f21_32 : fetch 21 32 = some (.astore 7, 0, 0, 0) := rfl
theorem f21_34 : fetch 21 34 = some (.aload 7, 0, 0, 0) := rfl
theorem f21_36 : fetch 21 36 = some (.getfield 64, 5, 9, 0) := rfl
theorem f21_39 : fetch 21 39 = some (.aload_n 3, 0, 0, 0) := rfl
theorem f21_40 : fetch 21 40 = some (.getfield 64, 5, 9, 0) := rfl
theorem f21_43 : fetch 21 43 = some (.if_icmp .lt 21, 64, 0, 0) := rfl
theorem f21_46 : fetch 21 46 = some (.aload 7, 0, 0, 0) := rfl
theorem f21_48 : fetch 21 48 = some (.getfield 64, 5, 9, 0) := rfl
theorem f21_51 : fetch 21 51 = some (.aload_n 3, 0, 0, 0) := rfl
theorem f21_52 : fetch 21 52 = some (.getfield 64, 5, 9, 0) := rfl
theorem f21_55 : fetch 21 55 = some (.if_icmp .ne 13, 68, 0, 0) := rfl
theorem f21_58 : fetch 21 58 = some (.iload 6, 0, 0, 0) := rfl
theorem f21_60 : fetch 21 60 = some (.iload_n 1, 0, 0, 0) := rfl
theorem f21_61 : fetch 21 61 = some (.if_icmp .ge 7, 68, 0, 0) := rfl
theorem f21_64 : fetch 21 64 = some (.iconst 1, 0, 0, 0) := rfl
theorem f21_65 : fetch 21 65 = some (.goto 4, 69, 0, 0) := rfl
theorem f21_68 : fetch 21 68 = some (.iconst 0, 0, 0, 0) := rfl
theorem f21_69 : fetch 21 69 = some (.istore 8, 0, 0, 0) := rfl
theorem f21_71 : fetch 21 71 = some (.iload 8, 0, 0, 0) := rfl
theorem f21_73 : fetch 21 73 = some (.ifCond .eq 60, 133, 0, 0) := rfl
theorem f21_76 : fetch 21 76 = some (.aload 7, 0, 0, 0) := rfl
theorem f21_78 : fetch 21 78 = some (.getfield 78, 5, 3, 0) := rfl
theorem f21_81 : fetch 21 81 = some (.aload_n 3, 0, 0, 0) := rfl
theorem f21_82 : fetch 21 82 = some (.getfield 78, 5, 3, 0) := rfl
theorem f21_85 : fetch 21 85 = some (.if_icmp .eq 48, 133, 0, 0) := rfl
theorem f21_88 : fetch 21 88 = some (.aload 7, 0, 0, 0) := rfl
theorem f21_90 : fetch 21 90 = some (.aload_n 3, 0, 0, 0) := rfl
theorem f21_91 : fetch 21 91 = some (.invokevirtual 141, 71, 1, 0) := rfl
theorem f21_94 : fetch 21 94 = some (.ifCond .eq 39, 133, 0, 0) := rfl
theorem f21_97 : fetch 21 97 = some (.aload 7, 0, 0, 0) := rfl
theorem f21_99 : fetch 21 99 = some (.iload_n 2, 0, 0, 0) := rfl
theorem f21_100 : fetch 21 100 = some (.invokevirtual 67, 69, 1, 0) := rfl
theorem f21_103 : fetch 21 103 = some (.ifCond .eq 30, 133, 0, 0) := rfl
theorem f21_106 : fetch 21 106 = some (.iload 4, 0, 0, 0) := rfl
theorem f21_108 : fetch 21 108 = some (.iconst (-1), 0, 0, 0) := rfl
theorem f21_109 : fetch 21 109 = some (.if_icmp .eq 13, 122, 0, 0) := rfl
theorem f21_112 : fetch 21 112 = some (.aload 7, 0, 0, 0) := rfl
theorem f21_114 : fetch 21 114 = some (.getfield 64, 5, 9, 0) := rfl
theorem f21_117 : fetch 21 117 = some (.iload 5, 0, 0, 0) := rfl
theorem f21_119 : fetch 21 119 = some (.if_icmp .ge 14, 133, 0, 0) := rfl
theorem f21_122 : fetch 21 122 = some (.iload 6, 0, 0, 0) := rfl
theorem f21_124 : fetch 21 124 = some (.istore 4, 0, 0, 0) := rfl
theorem f21_126 : fetch 21 126 = some (.aload 7, 0, 0, 0) := rfl
theorem f21_128 : fetch 21 128 = some (.getfield 64, 5, 9, 0) := rfl
theorem f21_131 : fetch 21 131 = some (.istore 5, 0, 0, 0) := rfl
theorem f21_133 : fetch 21 133 = some (.iinc 6 1, 0, 0, 0) := rfl
theorem f21_136 : fetch 21 136 = some (.goto (-120), 16, 0, 0) := rfl
theorem f21_139 : fetch 21 139 = some (.iload 4, 0, 0, 0) := rfl
theorem f21_141 : fetch 21 141 = some (.ireturn, 0, 0, 0) := rfl
set_option maxRecDepth 100000 in
set_option maxHeartbeats 4000000 in
theorem p21_j133_ok (d : Nat) (F : Nat) (a0 : Int32) (a1 : Int32) (K16 : Option Nat → Int32 → Int32 → Int32 → Option (Int32)) (h : HS) (w : WF h) (hK16 : ∀ (u3 : Option Nat) (u4 : Int32) (u5 : Int32) (u6 : Int32) (r : Int32), K16 u3 u4 u5 u6 = some r → ex (d + 1) 21 (16, [some (.ref (50)), some (.int (a0)), some (.int (a1)), some (va_rf (u3)), some (.int (u4)), some (.int (u5)), some (.int (u6)), none, none], [], h) = some (some (.int (r)), h)) (v3 : Option Nat) (v4 : Int32) (v5 : Int32) (v6 : Int32) (r : Int32) (hp : p21_j133 F a0 a1 K16 h v3 v4 v5 v6 = some r) : ex (d + 1) 21 (133, [some (.ref (50)), some (.int (a0)), some (.int (a1)), some (va_rf (v3)), some (.int (v4)), some (.int (v5)), some (.int (v6)), none, none], [], h) = some (some (.int (r)), h) := by
  unfold p21_j133 at hp
  refine e_iinc (ls2 := [some (.ref (50)), some (.int (a0)), some (.int (a1)), some (va_rf (v3)), some (.int (v4)), some (.int (v5)), some (.int ((v6) + 1)), none, none]) f21_133 (by decide) rfl rfl ?_
  refine e_goto f21_136 ?_
  refine ex_weak (ls := [some (.ref (50)), some (.int (a0)), some (.int (a1)), some (va_rf (v3)), some (.int (v4)), some (.int (v5)), some (.int ((v6) + 1)), none, none]) (le2_ok ⟨Or.inr rfl, Or.inr rfl, Or.inr rfl, Or.inr rfl, Or.inr rfl, Or.inr rfl, Or.inr rfl, Or.inl rfl, Or.inl rfl, trivial⟩) ?_
  exact hK16 (v3) (v4) (v5) ((v6) + 1) _ hp
set_option maxRecDepth 100000 in
set_option maxHeartbeats 4000000 in
theorem p21_j122_ok (d : Nat) (F : Nat) (a0 : Int32) (a1 : Int32) (K16 : Option Nat → Int32 → Int32 → Int32 → Option (Int32)) (h : HS) (w : WF h) (hK16 : ∀ (u3 : Option Nat) (u4 : Int32) (u5 : Int32) (u6 : Int32) (r : Int32), K16 u3 u4 u5 u6 = some r → ex (d + 1) 21 (16, [some (.ref (50)), some (.int (a0)), some (.int (a1)), some (va_rf (u3)), some (.int (u4)), some (.int (u5)), some (.int (u6)), none, none], [], h) = some (some (.int (r)), h)) (v3 : Option Nat) (v6 : Int32) (v7 : Option Nat) (r : Int32) (hp : p21_j122 F a0 a1 K16 h v3 v6 v7 = some r) : ex (d + 1) 21 (122, [some (.ref (50)), some (.int (a0)), some (.int (a1)), some (va_rf (v3)), none, none, some (.int (v6)), some (va_rf (v7)), none], [], h) = some (some (.int (r)), h) := by
  unfold p21_j122 at hp
  refine e_iload f21_122 rfl ?_
  refine e_istore (ls2 := [some (.ref (50)), some (.int (a0)), some (.int (a1)), some (va_rf (v3)), some (.int (v6)), none, some (.int (v6)), some (va_rf (v7)), none]) f21_124 (Nat.le_of_ble_eq_true rfl) (by generalize v3 = z; cases z <;> rfl) ?_
  refine e_qload f21_126 rfl ?_
  obtain ⟨o29, ho30, hp⟩ := bind_some hp
  try dsimp only at hp
  rw [ho30]
  by_cases hg31 : hT (h) (o29) = 5
  rotate_left
  · rw [if_neg hg31] at hp; cases hp
  rw [if_pos hg31] at hp
  refine e_getI f21_128 hg31 (by decide) ?_
  refine e_istore (ls2 := [some (.ref (50)), some (.int (a0)), some (.int (a1)), some (va_rf (v3)), some (.int (v6)), some (.int (hI (h) (o29) 9)), some (.int (v6)), some (.ref (o29)), none]) f21_131 (Nat.le_of_ble_eq_true rfl) rfl ?_
  refine ex_weak (ls := [some (.ref (50)), some (.int (a0)), some (.int (a1)), some (va_rf (v3)), some (.int (v6)), some (.int (hI (h) (o29) 9)), some (.int (v6)), none, none]) (le2_ok ⟨Or.inr rfl, Or.inr rfl, Or.inr rfl, Or.inr rfl, Or.inr rfl, Or.inr rfl, Or.inr rfl, Or.inl rfl, Or.inl rfl, trivial⟩) ?_
  exact p21_j133_ok d F a0 a1 (K16) (h) (w) (hK16) (v3) (v6) (hI (h) (o29) 9) (v6) _ hp
set_option maxRecDepth 100000 in
set_option maxHeartbeats 4000000 in
theorem p21_j69_ok (d : Nat) (F : Nat) (a0 : Int32) (a1 : Int32) (K16 : Option Nat → Int32 → Int32 → Int32 → Option (Int32)) (h : HS) (w : WF h) (hK16 : ∀ (u3 : Option Nat) (u4 : Int32) (u5 : Int32) (u6 : Int32) (r : Int32), K16 u3 u4 u5 u6 = some r → ex (d + 1) 21 (16, [some (.ref (50)), some (.int (a0)), some (.int (a1)), some (va_rf (u3)), some (.int (u4)), some (.int (u5)), some (.int (u6)), none, none], [], h) = some (some (.int (r)), h)) (v3 : Option Nat) (v4 : Int32) (v5 : Int32) (v6 : Int32) (v7 : Option Nat) (s0 : Int32) (r : Int32) (hp : p21_j69 F a0 a1 K16 h v3 v4 v5 v6 v7 s0 = some r) : ex (d + 1) 21 (69, [some (.ref (50)), some (.int (a0)), some (.int (a1)), some (va_rf (v3)), some (.int (v4)), some (.int (v5)), some (.int (v6)), some (va_rf (v7)), none], [.int (s0)], h) = some (some (.int (r)), h) := by
  unfold p21_j69 at hp
  refine e_istore (ls2 := [some (.ref (50)), some (.int (a0)), some (.int (a1)), some (va_rf (v3)), some (.int (v4)), some (.int (v5)), some (.int (v6)), some (va_rf (v7)), some (.int (s0))]) f21_69 (Nat.le_of_ble_eq_true rfl) (by generalize v7 = z; cases z <;> rfl) ?_
  refine e_iload f21_71 rfl ?_
  by_cases hc13 : (s0) = (0 : Int32)
  · rw [if_pos hc13] at hp
    refine e_if_eq_t f21_73 hc13 ?_
    refine ex_weak (ls := [some (.ref (50)), some (.int (a0)), some (.int (a1)), some (va_rf (v3)), some (.int (v4)), some (.int (v5)), some (.int (v6)), none, none]) (le2_ok ⟨Or.inr rfl, Or.inr rfl, Or.inr rfl, Or.inr rfl, Or.inr rfl, Or.inr rfl, Or.inr rfl, Or.inl rfl, Or.inl rfl, trivial⟩) ?_
    exact p21_j133_ok d F a0 a1 (K16) (h) (w) (hK16) (v3) (v4) (v5) (v6) _ hp
  · rw [if_neg hc13] at hp
    refine e_if_eq_f f21_73 hc13 ?_
    refine e_qload f21_76 rfl ?_
    obtain ⟨o14, ho15, hp⟩ := bind_some hp
    try dsimp only at hp
    rw [ho15]
    by_cases hg16 : hT (h) (o14) = 5
    rotate_left
    · rw [if_neg hg16] at hp; cases hp
    rw [if_pos hg16] at hp
    refine e_getI f21_78 hg16 (by decide) ?_
    refine e_qload_n f21_81 rfl ?_
    obtain ⟨o17, ho18, hp⟩ := bind_some hp
    try dsimp only at hp
    rw [ho18]
    by_cases hg19 : hT (h) (o17) = 5
    rotate_left
    · rw [if_neg hg19] at hp; cases hp
    rw [if_pos hg19] at hp
    refine e_getI f21_82 hg19 (by decide) ?_
    by_cases hc20 : (hI (h) (o14) 3) = ((hI (h) (o17) 3) : Int32)
    · rw [if_pos hc20] at hp
      refine e_icmp_eq_t f21_85 hc20 ?_
      refine ex_weak (ls := [some (.ref (50)), some (.int (a0)), some (.int (a1)), some (.ref (o17)), some (.int (v4)), some (.int (v5)), some (.int (v6)), none, none]) (le2_ok ⟨Or.inr rfl, Or.inr rfl, Or.inr rfl, Or.inr rfl, Or.inr rfl, Or.inr rfl, Or.inr rfl, Or.inl rfl, Or.inl rfl, trivial⟩) ?_
      exact p21_j133_ok d F a0 a1 (K16) (h) (w) (hK16) (some (o17)) (v4) (v5) (v6) _ hp
    · rw [if_neg hc20] at hp
      refine e_icmp_eq_f f21_85 hc20 ?_
      refine e_aload f21_88 rfl ?_
      refine e_aload_n f21_90 rfl ?_
      obtain ⟨r21, hr22, hp⟩ := bind_some hp
      try dsimp only at hp
      refine e_callV (st := []) (o := o14) (as := [.ref (o17)]) f21_91 (by decide) rfl rfl (Nat.le_of_ble_eq_true rfl) hg16 (Nat.le_of_ble_eq_true rfl) (p71_ok d (h) w (o14) (some (o17)) hg16 r21 hr22) ?_
      show ex _ 21 (94, [some (.ref (50)), some (.int (a0)), some (.int (a1)), some (.ref (o17)), some (.int (v4)), some (.int (v5)), some (.int (v6)), some (.ref (o14)), some (.int (s0))], [.int (r21)], h) = _
      by_cases hc23 : (r21) = (0 : Int32)
      · rw [if_pos hc23] at hp
        refine e_if_eq_t f21_94 hc23 ?_
        refine ex_weak (ls := [some (.ref (50)), some (.int (a0)), some (.int (a1)), some (.ref (o17)), some (.int (v4)), some (.int (v5)), some (.int (v6)), none, none]) (le2_ok ⟨Or.inr rfl, Or.inr rfl, Or.inr rfl, Or.inr rfl, Or.inr rfl, Or.inr rfl, Or.inr rfl, Or.inl rfl, Or.inl rfl, trivial⟩) ?_
        exact p21_j133_ok d F a0 a1 (K16) (h) (w) (hK16) (some (o17)) (v4) (v5) (v6) _ hp
      · rw [if_neg hc23] at hp
        refine e_if_eq_f f21_94 hc23 ?_
        refine e_aload f21_97 rfl ?_
        refine e_iload_n f21_99 rfl ?_
        obtain ⟨r24, hr25, hp⟩ := bind_some hp
        try dsimp only at hp
        refine e_callV (st := []) (o := o14) (as := [.int (a1)]) f21_100 (by decide) rfl rfl (Nat.le_of_ble_eq_true rfl) hg16 (Nat.le_of_ble_eq_true rfl) (p69_ok d (h) w (o14) (a1) hg16 r24 hr25) ?_
        show ex _ 21 (103, [some (.ref (50)), some (.int (a0)), some (.int (a1)), some (.ref (o17)), some (.int (v4)), some (.int (v5)), some (.int (v6)), some (.ref (o14)), some (.int (s0))], [.int (r24)], h) = _
        by_cases hc26 : (r24) = (0 : Int32)
        · rw [if_pos hc26] at hp
          refine e_if_eq_t f21_103 hc26 ?_
          refine ex_weak (ls := [some (.ref (50)), some (.int (a0)), some (.int (a1)), some (.ref (o17)), some (.int (v4)), some (.int (v5)), some (.int (v6)), none, none]) (le2_ok ⟨Or.inr rfl, Or.inr rfl, Or.inr rfl, Or.inr rfl, Or.inr rfl, Or.inr rfl, Or.inr rfl, Or.inl rfl, Or.inl rfl, trivial⟩) ?_
          exact p21_j133_ok d F a0 a1 (K16) (h) (w) (hK16) (some (o17)) (v4) (v5) (v6) _ hp
        · rw [if_neg hc26] at hp
          refine e_if_eq_f f21_103 hc26 ?_
          refine e_iload f21_106 rfl ?_
          refine e_iconst (v := -1) f21_108 (by decide) ?_
          by_cases hc27 : (v4) = (((-1)) : Int32)
          · rw [if_pos hc27] at hp
            refine e_icmp_eq_t f21_109 hc27 ?_
            refine ex_weak (ls := [some (.ref (50)), some (.int (a0)), some (.int (a1)), some (.ref (o17)), none, none, some (.int (v6)), some (.ref (o14)), none]) (le2_ok ⟨Or.inr rfl, Or.inr rfl, Or.inr rfl, Or.inr rfl, Or.inl rfl, Or.inl rfl, Or.inr rfl, Or.inr rfl, Or.inl rfl, trivial⟩) ?_
            exact p21_j122_ok d F a0 a1 (K16) (h) (w) (hK16) (some (o17)) (v6) (some (o14)) _ hp
          · rw [if_neg hc27] at hp
            refine e_icmp_eq_f f21_109 hc27 ?_
            refine e_aload f21_112 rfl ?_
            refine e_getI f21_114 hg16 (by decide) ?_
            refine e_iload f21_117 rfl ?_
            by_cases hc28 : (hI (h) (o14) 9) < ((v5) : Int32)
            · rw [if_pos hc28] at hp
              refine e_icmp_ge_f f21_119 hc28 ?_
              refine ex_weak (ls := [some (.ref (50)), some (.int (a0)), some (.int (a1)), some (.ref (o17)), none, none, some (.int (v6)), some (.ref (o14)), none]) (le2_ok ⟨Or.inr rfl, Or.inr rfl, Or.inr rfl, Or.inr rfl, Or.inl rfl, Or.inl rfl, Or.inr rfl, Or.inr rfl, Or.inl rfl, trivial⟩) ?_
              exact p21_j122_ok d F a0 a1 (K16) (h) (w) (hK16) (some (o17)) (v6) (some (o14)) _ hp
            · rw [if_neg hc28] at hp
              refine e_icmp_ge_t f21_119 hc28 ?_
              refine ex_weak (ls := [some (.ref (50)), some (.int (a0)), some (.int (a1)), some (.ref (o17)), some (.int (v4)), some (.int (v5)), some (.int (v6)), none, none]) (le2_ok ⟨Or.inr rfl, Or.inr rfl, Or.inr rfl, Or.inr rfl, Or.inr rfl, Or.inr rfl, Or.inr rfl, Or.inl rfl, Or.inl rfl, trivial⟩) ?_
              exact p21_j133_ok d F a0 a1 (K16) (h) (w) (hK16) (some (o17)) (v4) (v5) (v6) _ hp
set_option maxRecDepth 100000 in
set_option maxHeartbeats 4000000 in
theorem p21_j64_ok (d : Nat) (F : Nat) (a0 : Int32) (a1 : Int32) (K16 : Option Nat → Int32 → Int32 → Int32 → Option (Int32)) (h : HS) (w : WF h) (hK16 : ∀ (u3 : Option Nat) (u4 : Int32) (u5 : Int32) (u6 : Int32) (r : Int32), K16 u3 u4 u5 u6 = some r → ex (d + 1) 21 (16, [some (.ref (50)), some (.int (a0)), some (.int (a1)), some (va_rf (u3)), some (.int (u4)), some (.int (u5)), some (.int (u6)), none, none], [], h) = some (some (.int (r)), h)) (v3 : Option Nat) (v4 : Int32) (v5 : Int32) (v6 : Int32) (v7 : Option Nat) (r : Int32) (hp : p21_j64 F a0 a1 K16 h v3 v4 v5 v6 v7 = some r) : ex (d + 1) 21 (64, [some (.ref (50)), some (.int (a0)), some (.int (a1)), some (va_rf (v3)), some (.int (v4)), some (.int (v5)), some (.int (v6)), some (va_rf (v7)), none], [], h) = some (some (.int (r)), h) := by
  unfold p21_j64 at hp
  refine e_iconst (v := 1) f21_64 (by decide) ?_
  refine e_goto f21_65 ?_
  refine ex_weak (ls := [some (.ref (50)), some (.int (a0)), some (.int (a1)), some (va_rf (v3)), some (.int (v4)), some (.int (v5)), some (.int (v6)), some (va_rf (v7)), none]) (le2_ok ⟨Or.inr rfl, Or.inr rfl, Or.inr rfl, Or.inr rfl, Or.inr rfl, Or.inr rfl, Or.inr rfl, Or.inr rfl, Or.inl rfl, trivial⟩) ?_
  exact p21_j69_ok d F a0 a1 (K16) (h) (w) (hK16) (v3) (v4) (v5) (v6) (v7) (1) _ hp
set_option maxRecDepth 100000 in
set_option maxHeartbeats 4000000 in
theorem p21_j68_ok (d : Nat) (F : Nat) (a0 : Int32) (a1 : Int32) (K16 : Option Nat → Int32 → Int32 → Int32 → Option (Int32)) (h : HS) (w : WF h) (hK16 : ∀ (u3 : Option Nat) (u4 : Int32) (u5 : Int32) (u6 : Int32) (r : Int32), K16 u3 u4 u5 u6 = some r → ex (d + 1) 21 (16, [some (.ref (50)), some (.int (a0)), some (.int (a1)), some (va_rf (u3)), some (.int (u4)), some (.int (u5)), some (.int (u6)), none, none], [], h) = some (some (.int (r)), h)) (v3 : Option Nat) (v4 : Int32) (v5 : Int32) (v6 : Int32) (v7 : Option Nat) (r : Int32) (hp : p21_j68 F a0 a1 K16 h v3 v4 v5 v6 v7 = some r) : ex (d + 1) 21 (68, [some (.ref (50)), some (.int (a0)), some (.int (a1)), some (va_rf (v3)), some (.int (v4)), some (.int (v5)), some (.int (v6)), some (va_rf (v7)), none], [], h) = some (some (.int (r)), h) := by
  unfold p21_j68 at hp
  refine e_iconst (v := 0) f21_68 (by decide) ?_
  refine ex_weak (ls := [some (.ref (50)), some (.int (a0)), some (.int (a1)), some (va_rf (v3)), some (.int (v4)), some (.int (v5)), some (.int (v6)), some (va_rf (v7)), none]) (le2_ok ⟨Or.inr rfl, Or.inr rfl, Or.inr rfl, Or.inr rfl, Or.inr rfl, Or.inr rfl, Or.inr rfl, Or.inr rfl, Or.inl rfl, trivial⟩) ?_
  exact p21_j69_ok d F a0 a1 (K16) (h) (w) (hK16) (v3) (v4) (v5) (v6) (v7) (0) _ hp
set_option maxRecDepth 100000 in
set_option maxHeartbeats 4000000 in
theorem p21_L16_ok (d : Nat) (F : Nat) (a0 : Int32) (a1 : Int32) (h : HS) (w : WF h)  : ∀ (n : Nat) (v3 : Option Nat) (v4 : Int32) (v5 : Int32) (v6 : Int32) (r : Int32), p21_L16 F a0 a1 n h v3 v4 v5 v6 = some r → ex (d + 1) 21 (16, [some (.ref (50)), some (.int (a0)), some (.int (a1)), some (va_rf (v3)), some (.int (v4)), some (.int (v5)), some (.int (v6)), none, none], [], h) = some (some (.int (r)), h) := by
  intro n
  induction n with
  | zero => intro v3 v4 v5 v6 r hp; cases hp
  | succ n ih =>
    intro v3 v4 v5 v6 r hp
    unfold p21_L16 at hp
    refine e_iload f21_16 rfl ?_
    refine e_aload_n f21_18 rfl ?_
    refine e_getI f21_19 (WF.t w 50 (by decide)) (by decide) ?_
    by_cases hc2 : (v6) < ((hI (h) (50) 3) : Int32)
    · rw [if_pos hc2] at hp
      refine e_icmp_ge_f f21_22 hc2 ?_
      refine e_aload_n f21_25 rfl ?_
      refine e_getR f21_26 (WF.t w 50 (by decide)) rfl (WF.r (q := 54) w 50 8 (by decide)) ?_
      refine e_iload f21_29 rfl ?_
      by_cases hg3 : (v6) < (0 : Int32) ∨ 200 ≤ (v6).toNatClampNeg
      · rw [if_pos hg3] at hp; cases hp
      rw [if_neg hg3] at hp
      refine e_aaload f21_31 (Or.inr (Or.inr (Or.inr (WF.t w 54 (by decide))))) (WF.n w 54 (by decide)) hg3 ?_
      refine e_qstore (ls2 := [some (.ref (50)), some (.int (a0)), some (.int (a1)), some (va_rf (v3)), some (.int (v4)), some (.int (v5)), some (.int (v6)), some (va_rf (hR (h) (54) (v6).toNatClampNeg)), none]) f21_32 (Nat.le_of_ble_eq_true rfl) rfl ?_
      refine e_qload f21_34 rfl ?_
      obtain ⟨o4, ho5, hp⟩ := bind_some hp
      try dsimp only at hp
      rw [ho5]
      by_cases hg6 : hT (h) (o4) = 5
      rotate_left
      · rw [if_neg hg6] at hp; cases hp
      rw [if_pos hg6] at hp
      refine e_getI f21_36 hg6 (by decide) ?_
      refine e_qload_n f21_39 rfl ?_
      obtain ⟨o7, ho8, hp⟩ := bind_some hp
      try dsimp only at hp
      rw [ho8]
      by_cases hg9 : hT (h) (o7) = 5
      rotate_left
      · rw [if_neg hg9] at hp; cases hp
      rw [if_pos hg9] at hp
      refine e_getI f21_40 hg9 (by decide) ?_
      by_cases hc10 : (hI (h) (o4) 9) < ((hI (h) (o7) 9) : Int32)
      · rw [if_pos hc10] at hp
        refine e_icmp_lt_t f21_43 hc10 ?_
        refine ex_weak (ls := [some (.ref (50)), some (.int (a0)), some (.int (a1)), some (.ref (o7)), some (.int (v4)), some (.int (v5)), some (.int (v6)), some (.ref (o4)), none]) (le2_ok ⟨Or.inr rfl, Or.inr rfl, Or.inr rfl, Or.inr rfl, Or.inr rfl, Or.inr rfl, Or.inr rfl, Or.inr rfl, Or.inl rfl, trivial⟩) ?_
        exact p21_j64_ok d F a0 a1 ((p21_L16 F a0 a1 n h)) (h) (w) (ih) (some (o7)) (v4) (v5) (v6) (some (o4)) _ hp
      · rw [if_neg hc10] at hp
        refine e_icmp_lt_f f21_43 hc10 ?_
        refine e_aload f21_46 rfl ?_
        refine e_getI f21_48 hg6 (by decide) ?_
        refine e_aload_n f21_51 rfl ?_
        refine e_getI f21_52 hg9 (by decide) ?_
        by_cases hc11 : (hI (h) (o4) 9) = ((hI (h) (o7) 9) : Int32)
        · rw [if_pos hc11] at hp
          refine e_icmp_ne_f f21_55 hc11 ?_
          refine e_iload f21_58 rfl ?_
          refine e_iload_n f21_60 rfl ?_
          by_cases hc12 : (v6) < ((a0) : Int32)
          · rw [if_pos hc12] at hp
            refine e_icmp_ge_f f21_61 hc12 ?_
            refine ex_weak (ls := [some (.ref (50)), some (.int (a0)), some (.int (a1)), some (.ref (o7)), some (.int (v4)), some (.int (v5)), some (.int (v6)), some (.ref (o4)), none]) (le2_ok ⟨Or.inr rfl, Or.inr rfl, Or.inr rfl, Or.inr rfl, Or.inr rfl, Or.inr rfl, Or.inr rfl, Or.inr rfl, Or.inl rfl, trivial⟩) ?_
            exact p21_j64_ok d F a0 a1 ((p21_L16 F a0 a1 n h)) (h) (w) (ih) (some (o7)) (v4) (v5) (v6) (some (o4)) _ hp
          · rw [if_neg hc12] at hp
            refine e_icmp_ge_t f21_61 hc12 ?_
            refine ex_weak (ls := [some (.ref (50)), some (.int (a0)), some (.int (a1)), some (.ref (o7)), some (.int (v4)), some (.int (v5)), some (.int (v6)), some (.ref (o4)), none]) (le2_ok ⟨Or.inr rfl, Or.inr rfl, Or.inr rfl, Or.inr rfl, Or.inr rfl, Or.inr rfl, Or.inr rfl, Or.inr rfl, Or.inl rfl, trivial⟩) ?_
            exact p21_j68_ok d F a0 a1 ((p21_L16 F a0 a1 n h)) (h) (w) (ih) (some (o7)) (v4) (v5) (v6) (some (o4)) _ hp
        · rw [if_neg hc11] at hp
          refine e_icmp_ne_t f21_55 hc11 ?_
          refine ex_weak (ls := [some (.ref (50)), some (.int (a0)), some (.int (a1)), some (.ref (o7)), some (.int (v4)), some (.int (v5)), some (.int (v6)), some (.ref (o4)), none]) (le2_ok ⟨Or.inr rfl, Or.inr rfl, Or.inr rfl, Or.inr rfl, Or.inr rfl, Or.inr rfl, Or.inr rfl, Or.inr rfl, Or.inl rfl, trivial⟩) ?_
          exact p21_j68_ok d F a0 a1 ((p21_L16 F a0 a1 n h)) (h) (w) (ih) (some (o7)) (v4) (v5) (v6) (some (o4)) _ hp
    · rw [if_neg hc2] at hp
      refine e_icmp_ge_t f21_22 hc2 ?_
      refine e_iload f21_139 rfl ?_
      have hp := Option.some.inj hp
      subst hp
      exact e_ireturn f21_141 (Or.inl rfl)
set_option maxRecDepth 100000 in
set_option maxHeartbeats 4000000 in
theorem p21_ok (d : Nat) (F : Nat) (h : HS) (w : WF h) (a0 : Int32) (a1 : Int32) (r : Int32) (hp : p21 F h a0 a1 = some r) : ex (d + 1) 21 (ent 21 [.ref (50), .int (a0), .int (a1)] h) = some (some (.int (r)), h) := by
  rw [show ent 21 [.ref (50), .int (a0), .int (a1)] h = (0, [some (.ref (50)), some (.int (a0)), some (.int (a1)), none, none, none, none, none, none], [], h) from by  rfl]
  refine ex_weak (ls := [some (.ref (50)), some (.int (a0)), some (.int (a1)), none, none, none, none, none, none]) (le2_ok ⟨Or.inr rfl, Or.inr rfl, Or.inr rfl, Or.inr rfl, Or.inr rfl, Or.inr rfl, Or.inr rfl, Or.inr rfl, Or.inr rfl, trivial⟩) ?_
  unfold p21 at hp
  refine e_aload_n f21_0 rfl ?_
  refine e_getR f21_1 (WF.t w 50 (by decide)) rfl (WF.r (q := 54) w 50 8 (by decide)) ?_
  refine e_iload_n f21_4 rfl ?_
  by_cases hg1 : (a0) < (0 : Int32) ∨ 200 ≤ (a0).toNatClampNeg
  · rw [if_pos hg1] at hp; cases hp
  rw [if_neg hg1] at hp
  refine e_aaload f21_5 (Or.inr (Or.inr (Or.inr (WF.t w 54 (by decide))))) (WF.n w 54 (by decide)) hg1 ?_
  refine e_qstore_n (ls2 := [some (.ref (50)), some (.int (a0)), some (.int (a1)), some (va_rf (hR (h) (54) (a0).toNatClampNeg)), none, none, none, none, none]) f21_6 (Nat.le_of_ble_eq_true rfl) rfl ?_
  refine e_iconst (v := -1) f21_7 (by decide) ?_
  refine e_istore (ls2 := [some (.ref (50)), some (.int (a0)), some (.int (a1)), some (va_rf (hR (h) (54) (a0).toNatClampNeg)), some (.int ((-1))), none, none, none, none]) f21_8 (Nat.le_of_ble_eq_true rfl) (by generalize hR (h) (54) (a0).toNatClampNeg = z; cases z <;> rfl) ?_
  refine e_iconst (v := 0) f21_10 (by decide) ?_
  refine e_istore (ls2 := [some (.ref (50)), some (.int (a0)), some (.int (a1)), some (va_rf (hR (h) (54) (a0).toNatClampNeg)), some (.int ((-1))), some (.int (0)), none, none, none]) f21_11 (Nat.le_of_ble_eq_true rfl) rfl ?_
  refine e_iconst (v := 0) f21_13 (by decide) ?_
  refine e_istore (ls2 := [some (.ref (50)), some (.int (a0)), some (.int (a1)), some (va_rf (hR (h) (54) (a0).toNatClampNeg)), some (.int ((-1))), some (.int (0)), some (.int (0)), none, none]) f21_14 (Nat.le_of_ble_eq_true rfl) rfl ?_
  refine ex_weak (ls := [some (.ref (50)), some (.int (a0)), some (.int (a1)), some (va_rf (hR (h) (54) (a0).toNatClampNeg)), some (.int ((-1))), some (.int (0)), some (.int (0)), none, none]) (le2_ok ⟨Or.inr rfl, Or.inr rfl, Or.inr rfl, Or.inr rfl, Or.inr rfl, Or.inr rfl, Or.inr rfl, Or.inl rfl, Or.inl rfl, trivial⟩) ?_
  exact p21_L16_ok d F a0 a1 (h) (w) F (hR (h) (54) (a0).toNatClampNeg) ((-1)) (0) (0) _ hp
theorem f22_0 : fetch 22 0 = some (.iconst 0, 0, 0, 0) := rfl
theorem f22_1 : fetch 22 1 = some (.istore_n 3, 0, 0, 0) := rfl
theorem f22_2 : fetch 22 2 = some (.iconst 0, 0, 0, 0) := rfl
theorem f22_3 : fetch 22 3 = some (.istore 4, 0, 0, 0) := rfl
theorem f22_5 : fetch 22 5 = some (.iload 4, 0, 0, 0) := rfl
theorem f22_7 : fetch 22 7 = some (.aload_n 0, 0, 0, 0) := rfl
theorem f22_8 : fetch 22 8 = some (.getfield 51, 0, 4, 0) := rfl
theorem f22_11 : fetch 22 11 = some (.if_icmp .ge 49, 60, 0, 0) := rfl
theorem f22_14 : fetch 22 14 = some (.aload_n 0, 0, 0, 0) := rfl
theorem f22_15 : fetch 22 15 = some (.getfield 27, 0, 9, 2) := rfl
theorem f22_18 : fetch 22 18 = some (.iload 4, 0, 0, 0) := rfl
theorem f22_20 : fetch 22 20 = some (.aaload, 0, 0, 0) := rfl
theorem f22_21 : fetch 22 21 = some (.astore 5, 0, 0, 0) := rfl
theorem f22_23 : fetch 22 23 = some (.aload_n 0, 0, 0, 0) := rfl
theorem f22_24 : fetch 22 24 = some (.getfield 9, 0, 5, 2) := rfl
theorem f22_27 : fetch 22 27 = some (.aload 5, 0, 0, 0) := rfl
theorem f22_29 : fetch 22 29 = some (.getfield 78, 5, 3, 0) := rfl
theorem f22_32 : fetch 22 32 = some (.iaload, 0, 0, 0) := rfl
theorem f22_33 : fetch 22 33 = some (.iload_n 1, 0, 0, 0) := rfl
theorem f22_34 : fetch 22 34 = some (.if_icmp .ne 20, 54, 0, 0) := rfl
theorem f22_37 : fetch 22 37 = some (.aload 5, 0, 0, 0) := rfl
theorem f22_39 : fetch 22 39 = some (.iload_n 2, 0, 0, 0) := rfl
theorem f22_40 : fetch 22 40 = some (.invokevirtual 67, 69, 1, 0) := rfl
theorem f22_43 : fetch 22 43 = some (.ifCond .eq 11, 54, 0, 0) := rfl
theorem f22_46 : fetch 22 46 = some (.iload_n 3, 0, 0, 0) := rfl
theorem f22_47 : fetch 22 47 = some (.aload 5, 0, 0, 0) := rfl
theorem f22_49 : fetch 22 49 = some (.getfield 145, 5, 7, 0) := rfl
theorem f22_52 : fetch 22 52 = some (.iadd, 0, 0, 0) := rfl
theorem f22_53 : fetch 22 53 = some (.istore_n 3, 0, 0, 0) := rfl
theorem f22_54 : fetch 22 54 = some (.iinc 4 1, 0, 0, 0) := rfl
theorem f22_57 : fetch 22 57 = some (.goto (-52), 5, 0, 0) := rfl
theorem f22_60 : fetch 22 60 = some (.iconst 0, 0, 0, 0) := rfl
theorem f22_61 : fetch 22 61 = some (.istore 4, 0, 0, 0) := rfl
theorem f22_63 : fetch 22 63 = some (.iload 4, 0, 0, 0) := rfl
theorem f22_65 : fetch 22 65 = some (.aload_n 0, 0, 0, 0) := rfl
theorem f22_66 : fetch 22 66 = some (.getfield 48, 0, 3, 0) := rfl
theorem f22_69 : fetch 22 69 = some (.if_icmp .ge 75, 144, 0, 0) := rfl
theorem f22_72 : fetch 22 72 = some (.aload_n 0, 0, 0, 0) := rfl
theorem f22_73 : fetch 22 73 = some (.getfield 24, 0, 8, 2) := rfl
theorem f22_76 : fetch 22 76 = some (.iload 4, 0, 0, 0) := rfl
theorem f22_78 : fetch 22 78 = some (.aaload, 0, 0, 0) := rfl
theorem f22_79 : fetch 22 79 = some (.astore 5, 0, 0, 0) := rfl
theorem f22_81 : fetch 22 81 = some (.aload_n 0, 0, 0, 0) := rfl
theorem f22_82 : fetch 22 82 = some (.getfield 9, 0, 5, 2) := rfl
theorem f22_85 : fetch 22 85 = some (.aload 5, 0, 0, 0) := rfl
theorem f22_87 : fetch 22 87 = some (.getfield 78, 5, 3, 0) := rfl
theorem f22_90 : fetch 22 90 = some (.iaload, 0, 0, 0) := rfl
theorem f22_91 : fetch 22 91 = some (.iload_n 1, 0, 0, 0) := rfl
theorem f22_92 : fetch 22 92 = some (.if_icmp .ne 46, 138, 0, 0) := rfl
theorem f22_95 : fetch 22 95 = some (.aload 5, 0, 0, 0) := rfl
theorem f22_97 : fetch 22 97 = some (.iload_n 2, 0, 0, 0) := rfl
theorem f22_98 : fetch 22 98 = some (.invokevirtual 67, 69, 1, 0) := rfl
theorem f22_101 : fetch 22 101 = some (.ifCond .eq 37, 138, 0, 0) := rfl
theorem f22_104 : fetch 22 104 = some (.aload_n 0, 0, 0, 0) := rfl
theorem f22_105 : fetch 22 105 = some (.iload 4, 0, 0, 0) := rfl
theorem f22_107 : fetch 22 107 = some (.iload_n 2, 0, 0, 0) := rfl
theorem f22_108 : fetch 22 108 = some (.invokevirtual 148, 21, 2, 0) := rfl
theorem f22_111 : fetch 22 111 = some (.iconst (-1), 0, 0, 0) := rfl
theorem f22_112 : fetch 22 112 = some (.if_icmp .ne 26, 138, 0, 0) := rfl
theorem f22_115 : fetch 22 115 = some (.aload_n 0, 0, 0, 0) := rfl
theorem f22_116 : fetch 22 116 = some (.iload 4, 0, 0, 0) := rfl
theorem f22_118 : fetch 22 118 = some (.iload_n 2, 0, 0, 0) := rfl
theorem f22_119 : fetch 22 119 = some (.invokevirtual 151, 20, 2, 0) := rfl
theorem f22_122 : fetch 22 122 = some (.ifCond .ne 16, 138, 0, 0) := rfl
theorem f22_125 : fetch 22 125 = some (.iload_n 3, 0, 0, 0) := rfl
theorem f22_126 : fetch 22 126 = some (.aload_n 0, 0, 0, 0) := rfl
theorem f22_127 : fetch 22 127 = some (.getfield 15, 0, 6, 2) := rfl
theorem f22_130 : fetch 22 130 = some (.aload 5, 0, 0, 0) := rfl
theorem f22_132 : fetch 22 132 = some (.getfield 155, 5, 5, 0) := rfl
theorem f22_135 : fetch 22 135 = some (.iaload, 0, 0, 0) := rfl
theorem f22_136 : fetch 22 136 = some (.isub, 0, 0, 0) := rfl
theorem f22_137 : fetch 22 137 = some (.istore_n 3, 0, 0, 0) := rfl
theorem f22_138 : fetch 22 138 = some (.iinc 4 1, 0, 0, 0) := rfl
theorem f22_141 : fetch 22 141 = some (.goto (-78), 63, 0, 0) := rfl
theorem f22_144 : fetch 22 144 = some (.iload_n 3, 0, 0, 0) := rfl
theorem f22_145 : fetch 22 145 = some (.ireturn, 0, 0, 0) := rfl
set_option maxRecDepth 100000 in
set_option maxHeartbeats 4000000 in
theorem p22_j138_ok (d : Nat) (F : Nat) (a0 : Int32) (a1 : Int32) (K63 : Int32 → Int32 → Option (Int32)) (h : HS) (w : WF h) (hK63 : ∀ (u3 : Int32) (u4 : Int32) (r : Int32), K63 u3 u4 = some r → ex (d + 3) 22 (63, [some (.ref (50)), some (.int (a0)), some (.int (a1)), some (.int (u3)), some (.int (u4)), none], [], h) = some (some (.int (r)), h)) (v3 : Int32) (v4 : Int32) (r : Int32) (hp : p22_j138 F a0 a1 K63 h v3 v4 = some r) : ex (d + 3) 22 (138, [some (.ref (50)), some (.int (a0)), some (.int (a1)), some (.int (v3)), some (.int (v4)), none], [], h) = some (some (.int (r)), h) := by
  unfold p22_j138 at hp
  refine e_iinc (ls2 := [some (.ref (50)), some (.int (a0)), some (.int (a1)), some (.int (v3)), some (.int ((v4) + 1)), none]) f22_138 (by decide) rfl rfl ?_
  refine e_goto f22_141 ?_
  refine ex_weak (ls := [some (.ref (50)), some (.int (a0)), some (.int (a1)), some (.int (v3)), some (.int ((v4) + 1)), none]) (le2_ok ⟨Or.inr rfl, Or.inr rfl, Or.inr rfl, Or.inr rfl, Or.inr rfl, Or.inl rfl, trivial⟩) ?_
  exact hK63 (v3) ((v4) + 1) _ hp
set_option maxRecDepth 100000 in
set_option maxHeartbeats 4000000 in
theorem p22_j54_ok (d : Nat) (F : Nat) (a0 : Int32) (a1 : Int32) (K5 : Int32 → Int32 → Option (Int32)) (h : HS) (w : WF h) (hK5 : ∀ (u3 : Int32) (u4 : Int32) (r : Int32), K5 u3 u4 = some r → ex (d + 3) 22 (5, [some (.ref (50)), some (.int (a0)), some (.int (a1)), some (.int (u3)), some (.int (u4)), none], [], h) = some (some (.int (r)), h)) (v3 : Int32) (v4 : Int32) (r : Int32) (hp : p22_j54 F a0 a1 K5 h v3 v4 = some r) : ex (d + 3) 22 (54, [some (.ref (50)), some (.int (a0)), some (.int (a1)), some (.int (v3)), some (.int (v4)), none], [], h) = some (some (.int (r)), h) := by
  unfold p22_j54 at hp
  refine e_iinc (ls2 := [some (.ref (50)), some (.int (a0)), some (.int (a1)), some (.int (v3)), some (.int ((v4) + 1)), none]) f22_54 (by decide) rfl rfl ?_
  refine e_goto f22_57 ?_
  refine ex_weak (ls := [some (.ref (50)), some (.int (a0)), some (.int (a1)), some (.int (v3)), some (.int ((v4) + 1)), none]) (le2_ok ⟨Or.inr rfl, Or.inr rfl, Or.inr rfl, Or.inr rfl, Or.inr rfl, Or.inl rfl, trivial⟩) ?_
  exact hK5 (v3) ((v4) + 1) _ hp
set_option maxRecDepth 100000 in
set_option maxHeartbeats 4000000 in
theorem p22_L63_ok (d : Nat) (F : Nat) (a0 : Int32) (a1 : Int32) (h : HS) (w : WF h)  : ∀ (n : Nat) (v3 : Int32) (v4 : Int32) (r : Int32), p22_L63 F a0 a1 n h v3 v4 = some r → ex (d + 3) 22 (63, [some (.ref (50)), some (.int (a0)), some (.int (a1)), some (.int (v3)), some (.int (v4)), none], [], h) = some (some (.int (r)), h) := by
  intro n
  induction n with
  | zero => intro v3 v4 r hp; cases hp
  | succ n ih =>
    intro v3 v4 r hp
    unfold p22_L63 at hp
    refine e_iload f22_63 rfl ?_
    refine e_aload_n f22_65 rfl ?_
    refine e_getI f22_66 (WF.t w 50 (by decide)) (by decide) ?_
    by_cases hc11 : (v4) < ((hI (h) (50) 3) : Int32)
    · rw [if_pos hc11] at hp
      refine e_icmp_ge_f f22_69 hc11 ?_
      refine e_aload_n f22_72 rfl ?_
      refine e_getR f22_73 (WF.t w 50 (by decide)) rfl (WF.r (q := 54) w 50 8 (by decide)) ?_
      refine e_iload f22_76 rfl ?_
      by_cases hg12 : (v4) < (0 : Int32) ∨ 200 ≤ (v4).toNatClampNeg
      · rw [if_pos hg12] at hp; cases hp
      rw [if_neg hg12] at hp
      refine e_aaload f22_78 (Or.inr (Or.inr (Or.inr (WF.t w 54 (by decide))))) (WF.n w 54 (by decide)) hg12 ?_
      refine e_qstore (ls2 := [some (.ref (50)), some (.int (a0)), some (.int (a1)), some (.int (v3)), some (.int (v4)), some (va_rf (hR (h) (54) (v4).toNatClampNeg))]) f22_79 (Nat.le_of_ble_eq_true rfl) rfl ?_
      refine e_aload_n f22_81 rfl ?_
      refine e_getR f22_82 (WF.t w 50 (by decide)) rfl (WF.r (q := 51) w 50 5 (by decide)) ?_
      refine e_qload f22_85 rfl ?_
      obtain ⟨o13, ho14, hp⟩ := bind_some hp
      try dsimp only at hp
      rw [ho14]
      by_cases hg15 : hT (h) (o13) = 5
      rotate_left
      · rw [if_neg hg15] at hp; cases hp
      rw [if_pos hg15] at hp
      refine e_getI f22_87 hg15 (by decide) ?_
      by_cases hg16 : (hI (h) (o13) 3) < (0 : Int32) ∨ 40 ≤ (hI (h) (o13) 3).toNatClampNeg
      · rw [if_pos hg16] at hp; cases hp
      rw [if_neg hg16] at hp
      refine e_iaload f22_90 (Or.inl (WF.t w 51 (by decide))) (WF.n w 51 (by decide)) hg16 ?_
      refine e_iload_n f22_91 rfl ?_
      by_cases hc17 : (hI (h) (51) (hI (h) (o13) 3).toNatClampNeg) = ((a0) : Int32)
      · rw [if_pos hc17] at hp
        refine e_icmp_ne_f f22_92 hc17 ?_
        refine e_aload f22_95 rfl ?_
        refine e_iload_n f22_97 rfl ?_
        obtain ⟨r18, hr19, hp⟩ := bind_some hp
        try dsimp only at hp
        refine e_callV (st := []) (o := o13) (as := [.int (a1)]) f22_98 (by decide) rfl rfl (Nat.le_of_ble_eq_true rfl) hg15 (Nat.le_of_ble_eq_true rfl) (p69_ok (d + 2) (h) w (o13) (a1) hg15 r18 hr19) ?_
        show ex _ 22 (101, [some (.ref (50)), some (.int (a0)), some (.int (a1)), some (.int (v3)), some (.int (v4)), some (.ref (o13))], [.int (r18)], h) = _
        by_cases hc20 : (r18) = (0 : Int32)
        · rw [if_pos hc20] at hp
          refine e_if_eq_t f22_101 hc20 ?_
          refine ex_weak (ls := [some (.ref (50)), some (.int (a0)), some (.int (a1)), some (.int (v3)), some (.int (v4)), none]) (le2_ok ⟨Or.inr rfl, Or.inr rfl, Or.inr rfl, Or.inr rfl, Or.inr rfl, Or.inl rfl, trivial⟩) ?_
          exact p22_j138_ok d F a0 a1 ((p22_L63 F a0 a1 n h)) (h) (w) (ih) (v3) (v4) _ hp
        · rw [if_neg hc20] at hp
          refine e_if_eq_f f22_101 hc20 ?_
          refine e_aload_n f22_104 rfl ?_
          refine e_iload f22_105 rfl ?_
          refine e_iload_n f22_107 rfl ?_
          obtain ⟨r21, hr22, hp⟩ := bind_some hp
          try dsimp only at hp
          refine e_callV (st := []) (o := 50) (as := [.int (v4), .int (a1)]) f22_108 (by decide) rfl rfl (Nat.le_of_ble_eq_true rfl) (WF.t w 50 (by decide)) (Nat.le_of_ble_eq_true rfl) (p21_ok (d + 1) F (h) w (v4) (a1) r21 hr22) ?_
          show ex _ 22 (111, [some (.ref (50)), some (.int (a0)), some (.int (a1)), some (.int (v3)), some (.int (v4)), some (.ref (o13))], [.int (r21)], h) = _
          refine e_iconst (v := -1) f22_111 (by decide) ?_
          by_cases hc23 : (r21) = (((-1)) : Int32)
          · rw [if_pos hc23] at hp
            refine e_icmp_ne_f f22_112 hc23 ?_
            refine e_aload_n f22_115 rfl ?_
            refine e_iload f22_116 rfl ?_
            refine e_iload_n f22_118 rfl ?_
            obtain ⟨r24, hr25, hp⟩ := bind_some hp
            try dsimp only at hp
            refine e_callV (st := []) (o := 50) (as := [.int (v4), .int (a1)]) f22_119 (by decide) rfl rfl (Nat.le_of_ble_eq_true rfl) (WF.t w 50 (by decide)) (Nat.le_of_ble_eq_true rfl) (p20_ok d F (h) w (v4) (a1) r24 hr25) ?_
            show ex _ 22 (122, [some (.ref (50)), some (.int (a0)), some (.int (a1)), some (.int (v3)), some (.int (v4)), some (.ref (o13))], [.int (r24)], h) = _
            by_cases hc26 : (r24) = (0 : Int32)
            · rw [if_pos hc26] at hp
              refine e_if_ne_f f22_122 hc26 ?_
              refine e_iload_n f22_125 rfl ?_
              refine e_aload_n f22_126 rfl ?_
              refine e_getR f22_127 (WF.t w 50 (by decide)) rfl (WF.r (q := 52) w 50 6 (by decide)) ?_
              refine e_aload f22_130 rfl ?_
              refine e_getI f22_132 hg15 (by decide) ?_
              by_cases hg27 : (hI (h) (o13) 5) < (0 : Int32) ∨ 32 ≤ (hI (h) (o13) 5).toNatClampNeg
              · rw [if_pos hg27] at hp; cases hp
              rw [if_neg hg27] at hp
              refine e_iaload f22_135 (Or.inl (WF.t w 52 (by decide))) (WF.n w 52 (by decide)) hg27 ?_
              refine e_isub f22_136 ?_
              refine e_istore_n (ls2 := [some (.ref (50)), some (.int (a0)), some (.int (a1)), some (.int ((v3) - (hI (h) (52) (hI (h) (o13) 5).toNatClampNeg))), some (.int (v4)), some (.ref (o13))]) f22_137 (Nat.le_of_ble_eq_true rfl) rfl ?_
              refine ex_weak (ls := [some (.ref (50)), some (.int (a0)), some (.int (a1)), some (.int ((v3) - (hI (h) (52) (hI (h) (o13) 5).toNatClampNeg))), some (.int (v4)), none]) (le2_ok ⟨Or.inr rfl, Or.inr rfl, Or.inr rfl, Or.inr rfl, Or.inr rfl, Or.inl rfl, trivial⟩) ?_
              exact p22_j138_ok d F a0 a1 ((p22_L63 F a0 a1 n h)) (h) (w) (ih) ((v3) - (hI (h) (52) (hI (h) (o13) 5).toNatClampNeg)) (v4) _ hp
            · rw [if_neg hc26] at hp
              refine e_if_ne_t f22_122 hc26 ?_
              refine ex_weak (ls := [some (.ref (50)), some (.int (a0)), some (.int (a1)), some (.int (v3)), some (.int (v4)), none]) (le2_ok ⟨Or.inr rfl, Or.inr rfl, Or.inr rfl, Or.inr rfl, Or.inr rfl, Or.inl rfl, trivial⟩) ?_
              exact p22_j138_ok d F a0 a1 ((p22_L63 F a0 a1 n h)) (h) (w) (ih) (v3) (v4) _ hp
          · rw [if_neg hc23] at hp
            refine e_icmp_ne_t f22_112 hc23 ?_
            refine ex_weak (ls := [some (.ref (50)), some (.int (a0)), some (.int (a1)), some (.int (v3)), some (.int (v4)), none]) (le2_ok ⟨Or.inr rfl, Or.inr rfl, Or.inr rfl, Or.inr rfl, Or.inr rfl, Or.inl rfl, trivial⟩) ?_
            exact p22_j138_ok d F a0 a1 ((p22_L63 F a0 a1 n h)) (h) (w) (ih) (v3) (v4) _ hp
      · rw [if_neg hc17] at hp
        refine e_icmp_ne_t f22_92 hc17 ?_
        refine ex_weak (ls := [some (.ref (50)), some (.int (a0)), some (.int (a1)), some (.int (v3)), some (.int (v4)), none]) (le2_ok ⟨Or.inr rfl, Or.inr rfl, Or.inr rfl, Or.inr rfl, Or.inr rfl, Or.inl rfl, trivial⟩) ?_
        exact p22_j138_ok d F a0 a1 ((p22_L63 F a0 a1 n h)) (h) (w) (ih) (v3) (v4) _ hp
    · rw [if_neg hc11] at hp
      refine e_icmp_ge_t f22_69 hc11 ?_
      refine e_iload_n f22_144 rfl ?_
      have hp := Option.some.inj hp
      subst hp
      exact e_ireturn f22_145 (Or.inl rfl)
set_option maxRecDepth 100000 in
set_option maxHeartbeats 4000000 in
theorem p22_L5_ok (d : Nat) (F : Nat) (a0 : Int32) (a1 : Int32) (h : HS) (w : WF h)  : ∀ (n : Nat) (v3 : Int32) (v4 : Int32) (r : Int32), p22_L5 F a0 a1 n h v3 v4 = some r → ex (d + 3) 22 (5, [some (.ref (50)), some (.int (a0)), some (.int (a1)), some (.int (v3)), some (.int (v4)), none], [], h) = some (some (.int (r)), h) := by
  intro n
  induction n with
  | zero => intro v3 v4 r hp; cases hp
  | succ n ih =>
    intro v3 v4 r hp
    unfold p22_L5 at hp
    refine e_iload f22_5 rfl ?_
    refine e_aload_n f22_7 rfl ?_
    refine e_getI f22_8 (WF.t w 50 (by decide)) (by decide) ?_
    by_cases hc1 : (v4) < ((hI (h) (50) 4) : Int32)
    · rw [if_pos hc1] at hp
      refine e_icmp_ge_f f22_11 hc1 ?_
      refine e_aload_n f22_14 rfl ?_
      refine e_getR f22_15 (WF.t w 50 (by decide)) rfl (WF.r (q := 55) w 50 9 (by decide)) ?_
      refine e_iload f22_18 rfl ?_
      by_cases hg2 : (v4) < (0 : Int32) ∨ 200 ≤ (v4).toNatClampNeg
      · rw [if_pos hg2] at hp; cases hp
      rw [if_neg hg2] at hp
      refine e_aaload f22_20 (Or.inr (Or.inr (Or.inr (WF.t w 55 (by decide))))) (WF.n w 55 (by decide)) hg2 ?_
      refine e_qstore (ls2 := [some (.ref (50)), some (.int (a0)), some (.int (a1)), some (.int (v3)), some (.int (v4)), some (va_rf (hR (h) (55) (v4).toNatClampNeg))]) f22_21 (Nat.le_of_ble_eq_true rfl) rfl ?_
      refine e_aload_n f22_23 rfl ?_
      refine e_getR f22_24 (WF.t w 50 (by decide)) rfl (WF.r (q := 51) w 50 5 (by decide)) ?_
      refine e_qload f22_27 rfl ?_
      obtain ⟨o3, ho4, hp⟩ := bind_some hp
      try dsimp only at hp
      rw [ho4]
      by_cases hg5 : hT (h) (o3) = 5
      rotate_left
      · rw [if_neg hg5] at hp; cases hp
      rw [if_pos hg5] at hp
      refine e_getI f22_29 hg5 (by decide) ?_
      by_cases hg6 : (hI (h) (o3) 3) < (0 : Int32) ∨ 40 ≤ (hI (h) (o3) 3).toNatClampNeg
      · rw [if_pos hg6] at hp; cases hp
      rw [if_neg hg6] at hp
      refine e_iaload f22_32 (Or.inl (WF.t w 51 (by decide))) (WF.n w 51 (by decide)) hg6 ?_
      refine e_iload_n f22_33 rfl ?_
      by_cases hc7 : (hI (h) (51) (hI (h) (o3) 3).toNatClampNeg) = ((a0) : Int32)
      · rw [if_pos hc7] at hp
        refine e_icmp_ne_f f22_34 hc7 ?_
        refine e_aload f22_37 rfl ?_
        refine e_iload_n f22_39 rfl ?_
        obtain ⟨r8, hr9, hp⟩ := bind_some hp
        try dsimp only at hp
        refine e_callV (st := []) (o := o3) (as := [.int (a1)]) f22_40 (by decide) rfl rfl (Nat.le_of_ble_eq_true rfl) hg5 (Nat.le_of_ble_eq_true rfl) (p69_ok (d + 2) (h) w (o3) (a1) hg5 r8 hr9) ?_
        show ex _ 22 (43, [some (.ref (50)), some (.int (a0)), some (.int (a1)), some (.int (v3)), some (.int (v4)), some (.ref (o3))], [.int (r8)], h) = _
        by_cases hc10 : (r8) = (0 : Int32)
        · rw [if_pos hc10] at hp
          refine e_if_eq_t f22_43 hc10 ?_
          refine ex_weak (ls := [some (.ref (50)), some (.int (a0)), some (.int (a1)), some (.int (v3)), some (.int (v4)), none]) (le2_ok ⟨Or.inr rfl, Or.inr rfl, Or.inr rfl, Or.inr rfl, Or.inr rfl, Or.inl rfl, trivial⟩) ?_
          exact p22_j54_ok d F a0 a1 ((p22_L5 F a0 a1 n h)) (h) (w) (ih) (v3) (v4) _ hp
        · rw [if_neg hc10] at hp
          refine e_if_eq_f f22_43 hc10 ?_
          refine e_iload_n f22_46 rfl ?_
          refine e_aload f22_47 rfl ?_
          refine e_getI f22_49 hg5 (by decide) ?_
          refine e_iadd f22_52 ?_
          refine e_istore_n (ls2 := [some (.ref (50)), some (.int (a0)), some (.int (a1)), some (.int ((v3) + (hI (h) (o3) 7))), some (.int (v4)), some (.ref (o3))]) f22_53 (Nat.le_of_ble_eq_true rfl) rfl ?_
          refine ex_weak (ls := [some (.ref (50)), some (.int (a0)), some (.int (a1)), some (.int ((v3) + (hI (h) (o3) 7))), some (.int (v4)), none]) (le2_ok ⟨Or.inr rfl, Or.inr rfl, Or.inr rfl, Or.inr rfl, Or.inr rfl, Or.inl rfl, trivial⟩) ?_
          exact p22_j54_ok d F a0 a1 ((p22_L5 F a0 a1 n h)) (h) (w) (ih) ((v3) + (hI (h) (o3) 7)) (v4) _ hp
      · rw [if_neg hc7] at hp
        refine e_icmp_ne_t f22_34 hc7 ?_
        refine ex_weak (ls := [some (.ref (50)), some (.int (a0)), some (.int (a1)), some (.int (v3)), some (.int (v4)), none]) (le2_ok ⟨Or.inr rfl, Or.inr rfl, Or.inr rfl, Or.inr rfl, Or.inr rfl, Or.inl rfl, trivial⟩) ?_
        exact p22_j54_ok d F a0 a1 ((p22_L5 F a0 a1 n h)) (h) (w) (ih) (v3) (v4) _ hp
    · rw [if_neg hc1] at hp
      refine e_icmp_ge_t f22_11 hc1 ?_
      refine e_iconst (v := 0) f22_60 (by decide) ?_
      refine e_istore (ls2 := [some (.ref (50)), some (.int (a0)), some (.int (a1)), some (.int (v3)), some (.int (0)), none]) f22_61 (Nat.le_of_ble_eq_true rfl) rfl ?_
      refine ex_weak (ls := [some (.ref (50)), some (.int (a0)), some (.int (a1)), some (.int (v3)), some (.int (0)), none]) (le2_ok ⟨Or.inr rfl, Or.inr rfl, Or.inr rfl, Or.inr rfl, Or.inr rfl, Or.inl rfl, trivial⟩) ?_
      exact p22_L63_ok d F a0 a1 (h) (w) F (v3) (0) _ hp
set_option maxRecDepth 100000 in
set_option maxHeartbeats 4000000 in
theorem p22_ok (d : Nat) (F : Nat) (h : HS) (w : WF h) (a0 : Int32) (a1 : Int32) (r : Int32) (hp : p22 F h a0 a1 = some r) : ex (d + 3) 22 (ent 22 [.ref (50), .int (a0), .int (a1)] h) = some (some (.int (r)), h) := by
  rw [show ent 22 [.ref (50), .int (a0), .int (a1)] h = (0, [some (.ref (50)), some (.int (a0)), some (.int (a1)), none, none, none], [], h) from by  rfl]
  refine ex_weak (ls := [some (.ref (50)), some (.int (a0)), some (.int (a1)), none, none, none]) (le2_ok ⟨Or.inr rfl, Or.inr rfl, Or.inr rfl, Or.inr rfl, Or.inr rfl, Or.inr rfl, trivial⟩) ?_
  unfold p22 at hp
  refine e_iconst (v := 0) f22_0 (by decide) ?_
  refine e_istore_n (ls2 := [some (.ref (50)), some (.int (a0)), some (.int (a1)), some (.int (0)), none, none]) f22_1 (Nat.le_of_ble_eq_true rfl) rfl ?_
  refine e_iconst (v := 0) f22_2 (by decide) ?_
  refine e_istore (ls2 := [some (.ref (50)), some (.int (a0)), some (.int (a1)), some (.int (0)), some (.int (0)), none]) f22_3 (Nat.le_of_ble_eq_true rfl) rfl ?_
  refine ex_weak (ls := [some (.ref (50)), some (.int (a0)), some (.int (a1)), some (.int (0)), some (.int (0)), none]) (le2_ok ⟨Or.inr rfl, Or.inr rfl, Or.inr rfl, Or.inr rfl, Or.inr rfl, Or.inl rfl, trivial⟩) ?_
  exact p22_L5_ok d F a0 a1 (h) (w) F (0) (0) _ hp
theorem f99_0 : fetch 99 0 = some (.iconst 0, 0, 0, 0) := rfl
theorem f99_1 : fetch 99 1 = some (.istore_n 2, 0, 0, 0) := rfl
theorem f99_2 : fetch 99 2 = some (.iload_n 2, 0, 0, 0) := rfl
theorem f99_3 : fetch 99 3 = some (.aload_n 0, 0, 0, 0) := rfl
theorem f99_4 : fetch 99 4 = some (.getfield 41, 9, 7, 0) := rfl
theorem f99_7 : fetch 99 7 = some (.if_icmp .ge 24, 31, 0, 0) := rfl
theorem f99_10 : fetch 99 10 = some (.aload_n 0, 0, 0, 0) := rfl
theorem f99_11 : fetch 99 11 = some (.getfield 29, 9, 11, 2) := rfl
theorem f99_14 : fetch 99 14 = some (.iload_n 2, 0, 0, 0) := rfl
theorem f99_15 : fetch 99 15 = some (.iaload, 0, 0, 0) := rfl
theorem f99_16 : fetch 99 16 = some (.iload_n 1, 0, 0, 0) := rfl
theorem f99_17 : fetch 99 17 = some (.iushr, 0, 0, 0) := rfl
theorem f99_18 : fetch 99 18 = some (.iconst 1, 0, 0, 0) := rfl
theorem f99_19 : fetch 99 19 = some (.iand, 0, 0, 0) := rfl
theorem f99_20 : fetch 99 20 = some (.ifCond .ne 5, 25, 0, 0) := rfl
theorem f99_23 : fetch 99 23 = some (.iconst 0, 0, 0, 0) := rfl
theorem f99_24 : fetch 99 24 = some (.ireturn, 0, 0, 1) := rfl
theorem f99_25 : fetch 99 25 = some (.iinc 2 1, 0, 0, 0) := rfl
theorem f99_28 : fetch 99 28 = some (.goto (-26), 2, 0, 0) := rfl
theorem f99_31 : fetch 99 31 = some (.aload_n 0, 0, 0, 0) := rfl
theorem f99_32 : fetch 99 32 = some (.getfield 41, 9, 7, 0) := rfl
theorem f99_35 : fetch 99 35 = some (.ifCond .le 7, 42, 0, 0) := rfl
theorem f99_38 : fetch 99 38 = some (.iconst 1, 0, 0, 0) := rfl
theorem f99_39 : fetch 99 39 = some (.goto 4, 43, 0, 0) := rfl
theorem f99_42 : fetch 99 42 = some (.iconst 0, 0, 0, 0) := rfl
theorem f99_43 : fetch 99 43 = some (.ireturn, 0, 0, 1) := rfl
set_option maxRecDepth 100000 in
set_option maxHeartbeats 4000000 in
theorem p99_L2_ok (d : Nat) (F : Nat) (o : Nat) (a0 : Int32) (h : HS) (w : WF h)  (ho : hT h o = 9) : ∀ (n : Nat) (v2 : Int32) (r : Int32), p99_L2 F o a0 n h v2 = some r → ex (d + 0) 99 (2, [some (.ref (o)), some (.int (a0)), some (.int (v2))], [], h) = some (some (.int (r)), h) := by
  intro n
  induction n with
  | zero => intro v2 r hp; cases hp
  | succ n ih =>
    intro v2 r hp
    unfold p99_L2 at hp
    refine e_iload_n f99_2 rfl ?_
    refine e_aload_n f99_3 rfl ?_
    refine e_getI f99_4 ho (by decide) ?_
    by_cases hc1 : (v2) < ((hI (h) (o) 7) : Int32)
    · rw [if_pos hc1] at hp
      refine e_icmp_ge_f f99_7 hc1 ?_
      refine e_aload_n f99_10 rfl ?_
      refine e_getQ f99_11 ho rfl ?_
      refine e_iload_n f99_14 rfl ?_
      obtain ⟨o2, ho3, hp⟩ := bind_some hp
      try dsimp only at hp
      rw [ho3]
      by_cases hg4 : hT (h) (o2) = 20
      rotate_left
      · rw [if_neg hg4] at hp; cases hp
      rw [if_pos hg4] at hp
      by_cases hg5 : (v2) < (0 : Int32) ∨ hN (h) (o2) ≤ (v2).toNatClampNeg
      · rw [if_pos hg5] at hp; cases hp
      rw [if_neg hg5] at hp
      refine e_iaload f99_15 (Or.inl hg4) rfl hg5 ?_
      refine e_iload_n f99_16 rfl ?_
      refine e_iushr f99_17 ?_
      refine e_iconst (v := 1) f99_18 (by decide) ?_
      refine e_iand f99_19 ?_
      by_cases hc6 : ((((hI (h) (o2) (v2).toNatClampNeg).toUInt32 >>> ((a0).toUInt32 &&& Int32.toUInt32 31)).toInt32) &&& (1)) = (0 : Int32)
      · rw [if_pos hc6] at hp
        refine e_if_ne_f f99_20 hc6 ?_
        refine e_iconst (v := 0) f99_23 (by decide) ?_
        have hp := Option.some.inj hp
        subst hp
        exact e_ireturn f99_24 (by decide)
      · rw [if_neg hc6] at hp
        refine e_if_ne_t f99_20 hc6 ?_
        refine e_iinc (ls2 := [some (.ref (o)), some (.int (a0)), some (.int ((v2) + 1))]) f99_25 (by decide) rfl rfl ?_
        refine e_goto f99_28 ?_
        refine ex_weak (ls := [some (.ref (o)), some (.int (a0)), some (.int ((v2) + 1))]) (le2_ok ⟨Or.inr rfl, Or.inr rfl, Or.inr rfl, trivial⟩) ?_
        exact ih ((v2) + 1) _ hp
    · rw [if_neg hc1] at hp
      refine e_icmp_ge_t f99_7 hc1 ?_
      refine e_aload_n f99_31 rfl ?_
      refine e_getI f99_32 ho (by decide) ?_
      by_cases hc7 : (0 : Int32) < (hI (h) (o) 7)
      · rw [if_pos hc7] at hp
        refine e_if_le_f f99_35 hc7 ?_
        refine e_iconst (v := 1) f99_38 (by decide) ?_
        refine e_goto f99_39 ?_
        have hp := Option.some.inj hp
        subst hp
        exact e_ireturn f99_43 (by decide)
      · rw [if_neg hc7] at hp
        refine e_if_le_t f99_35 hc7 ?_
        refine e_iconst (v := 0) f99_42 (by decide) ?_
        have hp := Option.some.inj hp
        subst hp
        exact e_ireturn f99_43 (by decide)
set_option maxRecDepth 100000 in
set_option maxHeartbeats 4000000 in
theorem p99_ok (d : Nat) (F : Nat) (h : HS) (w : WF h) (o : Nat) (a0 : Int32) (ho : hT h o = 9) (r : Int32) (hp : p99 F h o a0 = some r) : ex (d + 0) 99 (ent 99 [.ref (o), .int (a0)] h) = some (some (.int (r)), h) := by
  rw [show ent 99 [.ref (o), .int (a0)] h = (0, [some (.ref (o)), some (.int (a0)), none], [], h) from by  rfl]
  refine ex_weak (ls := [some (.ref (o)), some (.int (a0)), none]) (le2_ok ⟨Or.inr rfl, Or.inr rfl, Or.inr rfl, trivial⟩) ?_
  unfold p99 at hp
  refine e_iconst (v := 0) f99_0 (by decide) ?_
  refine e_istore_n (ls2 := [some (.ref (o)), some (.int (a0)), some (.int (0))]) f99_1 (Nat.le_of_ble_eq_true rfl) rfl ?_
  refine ex_weak (ls := [some (.ref (o)), some (.int (a0)), some (.int (0))]) (le2_ok ⟨Or.inr rfl, Or.inr rfl, Or.inr rfl, trivial⟩) ?_
  exact p99_L2_ok d F o a0 (h) (w) (ho) F (0) _ hp
theorem f23_0 : fetch 23 0 = some (.aload_n 0, 0, 0, 0) := rfl
theorem f23_1 : fetch 23 1 = some (.invokevirtual 85, 10, 0, 0) := rfl
theorem f23_4 : fetch 23 4 = some (.lstore 5, 0, 0, 0) := rfl
theorem f23_6 : fetch 23 6 = some (.iconst 0, 0, 0, 0) := rfl
theorem f23_7 : fetch 23 7 = some (.istore 7, 0, 0, 0) := rfl
theorem f23_9 : fetch 23 9 = some (.iload 7, 0, 0, 0) := rfl
theorem f23_11 : fetch 23 11 = some (.aload_n 0, 0, 0, 0) := rfl
theorem f23_12 : fetch 23 12 = some (.getfield 48, 0, 3, 0) := rfl
theorem f23_15 : fetch 23 15 = some (.if_icmp .ge 106, 121, 0, 0) := rfl
theorem f23_18 : fetch 23 18 = some (.aload_n 0, 0, 0, 0) := rfl
theorem f23_19 : fetch 23 19 = some (.getfield 24, 0, 8, 2) := rfl
theorem f23_22 : fetch 23 22 = some (.iload 7, 0, 0, 0) := rfl
theorem f23_24 : fetch 23 24 = some (.aaload, 0, 0, 0) := rfl
theorem f23_25 : fetch 23 25 = some (.astore 8, 0, 0, 0) := rfl
theorem f23_27 : fetch 23 27 = some (.aload 8, 0, 0, 0) := rfl
theorem f23_29 : fetch 23 29 = some (.getfield 78, 5, 3, 0) := rfl
theorem f23_32 : fetch 23 32 = some (.iload_n 2, 0, 0, 0) := rfl
theorem f23_33 : fetch 23 33 = some (.if_icmp .ne 82, 115, 0, 0) := rfl
theorem f23_36 : fetch 23 36 = some (.aload 8, 0, 0, 0) := rfl
theorem f23_38 : fetch 23 38 = some (.getfield 123, 5, 0, 2) := rfl
theorem f23_41 : fetch 23 41 = some (.ifnull 74, 115, 0, 0) := rfl
theorem f23_44 : fetch 23 44 = some (.aload 8, 0, 0, 0) := rfl
theorem f23_46 : fetch 23 46 = some (.iload 4, 0, 0, 0) := rfl
theorem f23_48 : fetch 23 48 = some (.invokevirtual 67, 69, 1, 0) := rfl
theorem f23_51 : fetch 23 51 = some (.ifCond .eq 19, 70, 0, 0) := rfl
theorem f23_54 : fetch 23 54 = some (.aload 8, 0, 0, 0) := rfl
theorem f23_56 : fetch 23 56 = some (.getfield 123, 5, 0, 2) := rfl
theorem f23_59 : fetch 23 59 = some (.iload_n 1, 0, 0, 0) := rfl
theorem f23_60 : fetch 23 60 = some (.invokevirtual 158, 99, 1, 0) := rfl
theorem f23_63 : fetch 23 63 = some (.ifCond .eq 7, 70, 0, 0) := rfl
theorem f23_66 : fetch 23 66 = some (.iconst 1, 0, 0, 0) := rfl
theorem f23_67 : fetch 23 67 = some (.goto 4, 71, 0, 0) := rfl
theorem f23_70 : fetch 23 70 = some (.iconst 0, 0, 0, 0) := rfl
theorem f23_71 : fetch 23 71 = some (.istore 9, 0, 0, 0) := rfl
theorem f23_73 : fetch 23 73 = some (.iload 9, 0, 0, 0) := rfl
theorem f23_75 : fetch 23 75 = some (.ifCond .ne 23, 98, 0, 0) := rfl
theorem f23_78 : fetch 23 78 = some (.aload 8, 0, 0, 0) := rfl
theorem f23_80 : fetch 23 80 = some (.iload_n 3, 0, 0, 0) := rfl
theorem f23_81 : fetch 23 81 = some (.invokevirtual 54, 70, 1, 0) := rfl
theorem f23_84 : fetch 23 84 = some (.ifCond .eq 31, 115, 0, 0) := rfl
theorem f23_87 : fetch 23 87 = some (.aload 8, 0, 0, 0) := rfl
theorem f23_89 : fetch 23 89 = some (.getfield 120, 5, 2, 0) := rfl
theorem f23_92 : fetch 23 92 = some (.sipush 4000, 0, 0, 0) := rfl
theorem f23_95 : fetch 23 95 = some (.if_icmp .ne 20, 115, 0, 0) := rfl
theorem f23_98 : fetch 23 98 = some (.lload 5, 0, 0, 0) := rfl
theorem f23_100 : fetch 23 100 = some (.aload_n 0, 0, 0, 0) := rfl
theorem f23_101 : fetch 23 101 = some (.aload 8, 0, 0, 0) := rfl
theorem f23_103 : fetch 23 103 = some (.iload 4, 0, 0, 0) := rfl
theorem f23_105 : fetch 23 105 = some (.invokevirtual 81, 11, 2, 0) := rfl
theorem f23_108 : fetch 23 108 = some (.ldc2_w 76, 0, 0, -1) := rfl
theorem f23_111 : fetch 23 111 = some (.lxor, 0, 0, 0) := rfl
theorem f23_112 : fetch 23 112 = some (.land, 0, 0, 0) := rfl
theorem f23_113 : fetch 23 113 = some (.lstore 5, 0, 0, 0) := rfl
theorem f23_115 : fetch 23 115 = some (.iinc 7 1, 0, 0, 0) := rfl
theorem f23_118 : fetch 23 118 = some (.goto (-109), 9, 0, 0) := rfl
theorem f23_121 : fetch 23 121 = some (.lload 5, 0, 0, 0) := rfl
theorem f23_123 : fetch 23 123 = some (.lreturn, 0, 0, 0) := rfl
set_option maxRecDepth 100000 in
set_option maxHeartbeats 4000000 in
theorem p23_j115_ok (d : Nat) (F : Nat) (a0 : Int32) (a1 : Int32) (a2 : Int32) (a3 : Int32) (K9 : Int64 → Int32 → Option (Int64)) (h : HS) (w : WF h) (hK9 : ∀ (u5 : Int64) (u7 : Int32) (r : Int64), K9 u5 u7 = some r → ex (d + 2) 23 (9, [some (.ref (50)), some (.int (a0)), some (.int (a1)), some (.int (a2)), some (.int (a3)), some (.long (u5)), none, some (.int (u7)), none, none], [], h) = some (some (.long (r)), h)) (v5 : Int64) (v7 : Int32) (r : Int64) (hp : p23_j115 F a0 a1 a2 a3 K9 h v5 v7 = some r) : ex (d + 2) 23 (115, [some (.ref (50)), some (.int (a0)), some (.int (a1)), some (.int (a2)), some (.int (a3)), some (.long (v5)), none, some (.int (v7)), none, none], [], h) = some (some (.long (r)), h) := by
  unfold p23_j115 at hp
  refine e_iinc (ls2 := [some (.ref (50)), some (.int (a0)), some (.int (a1)), some (.int (a2)), some (.int (a3)), some (.long (v5)), none, some (.int ((v7) + 1)), none, none]) f23_115 (by decide) rfl rfl ?_
  refine e_goto f23_118 ?_
  refine ex_weak (ls := [some (.ref (50)), some (.int (a0)), some (.int (a1)), some (.int (a2)), some (.int (a3)), some (.long (v5)), none, some (.int ((v7) + 1)), none, none]) (le2_ok ⟨Or.inr rfl, Or.inr rfl, Or.inr rfl, Or.inr rfl, Or.inr rfl, Or.inr rfl, Or.inl rfl, Or.inr rfl, Or.inl rfl, Or.inl rfl, trivial⟩) ?_
  exact hK9 (v5) ((v7) + 1) _ hp
set_option maxRecDepth 100000 in
set_option maxHeartbeats 4000000 in
theorem p23_j98_ok (d : Nat) (F : Nat) (a0 : Int32) (a1 : Int32) (a2 : Int32) (a3 : Int32) (K9 : Int64 → Int32 → Option (Int64)) (h : HS) (w : WF h) (hK9 : ∀ (u5 : Int64) (u7 : Int32) (r : Int64), K9 u5 u7 = some r → ex (d + 2) 23 (9, [some (.ref (50)), some (.int (a0)), some (.int (a1)), some (.int (a2)), some (.int (a3)), some (.long (u5)), none, some (.int (u7)), none, none], [], h) = some (some (.long (r)), h)) (v5 : Int64) (v7 : Int32) (v8 : Option Nat) (r : Int64) (hp : p23_j98 F a0 a1 a2 a3 K9 h v5 v7 v8 = some r) : ex (d + 2) 23 (98, [some (.ref (50)), some (.int (a0)), some (.int (a1)), some (.int (a2)), some (.int (a3)), some (.long (v5)), none, some (.int (v7)), some (va_rf (v8)), none], [], h) = some (some (.long (r)), h) := by
  unfold p23_j98 at hp
  refine e_lload f23_98 rfl ?_
  refine e_aload_n f23_100 rfl ?_
  refine e_qload f23_101 rfl ?_
  refine e_iload f23_103 rfl ?_
  obtain ⟨r29, hr30, hp⟩ := bind_some hp
  try dsimp only at hp
  refine e_callV (st := [.long (v5)]) (o := 50) (as := [va_rf (v8), .int (a3)]) f23_105 (by decide) rfl rfl (Nat.le_of_ble_eq_true rfl) (WF.t w 50 (by decide)) (by cases (v8) <;> exact Nat.le_of_ble_eq_true rfl) (p11_ok d F (h) w (v8) (a3) r29 hr30) ?_
  show ex _ 23 (108, [some (.ref (50)), some (.int (a0)), some (.int (a1)), some (.int (a2)), some (.int (a3)), some (.long (v5)), none, some (.int (v7)), some (va_rf (v8)), none], [.long (r29), .long (v5)], h) = _
  refine e_ldc2 (v := -1) f23_108 (by decide) ?_
  refine e_lxor f23_111 ?_
  refine e_land f23_112 ?_
  refine e_lstore (ls2 := [some (.ref (50)), some (.int (a0)), some (.int (a1)), some (.int (a2)), some (.int (a3)), some (.long ((v5) &&& ((r29) ^^^ ((-1 : Int64))))), none, some (.int (v7)), some (va_rf (v8)), none]) f23_113 (Nat.le_of_ble_eq_true rfl) rfl ?_
  refine ex_weak (ls := [some (.ref (50)), some (.int (a0)), some (.int (a1)), some (.int (a2)), some (.int (a3)), some (.long ((v5) &&& ((r29) ^^^ ((-1 : Int64))))), none, some (.int (v7)), none, none]) (le2_ok ⟨Or.inr rfl, Or.inr rfl, Or.inr rfl, Or.inr rfl, Or.inr rfl, Or.inr rfl, Or.inl rfl, Or.inr rfl, Or.inl rfl, Or.inl rfl, trivial⟩) ?_
  exact p23_j115_ok d F a0 a1 a2 a3 (K9) (h) (w) (hK9) ((v5) &&& ((r29) ^^^ ((-1 : Int64)))) (v7) _ hp
set_option maxRecDepth 100000 in
set_option maxHeartbeats 4000000 in
theorem p23_j71_ok (d : Nat) (F : Nat) (a0 : Int32) (a1 : Int32) (a2 : Int32) (a3 : Int32) (K9 : Int64 → Int32 → Option (Int64)) (h : HS) (w : WF h) (hK9 : ∀ (u5 : Int64) (u7 : Int32) (r : Int64), K9 u5 u7 = some r → ex (d + 2) 23 (9, [some (.ref (50)), some (.int (a0)), some (.int (a1)), some (.int (a2)), some (.int (a3)), some (.long (u5)), none, some (.int (u7)), none, none], [], h) = some (some (.long (r)), h)) (v5 : Int64) (v7 : Int32) (v8 : Option Nat) (s0 : Int32) (r : Int64) (hp : p23_j71 F a0 a1 a2 a3 K9 h v5 v7 v8 s0 = some r) : ex (d + 2) 23 (71, [some (.ref (50)), some (.int (a0)), some (.int (a1)), some (.int (a2)), some (.int (a3)), some (.long (v5)), none, some (.int (v7)), some (va_rf (v8)), none], [.int (s0)], h) = some (some (.long (r)), h) := by
  unfold p23_j71 at hp
  refine e_istore (ls2 := [some (.ref (50)), some (.int (a0)), some (.int (a1)), some (.int (a2)), some (.int (a3)), some (.long (v5)), none, some (.int (v7)), some (va_rf (v8)), some (.int (s0))]) f23_71 (Nat.le_of_ble_eq_true rfl) (by generalize v8 = z; cases z <;> rfl) ?_
  refine e_iload f23_73 rfl ?_
  by_cases hc21 : (s0) = (0 : Int32)
  · rw [if_pos hc21] at hp
    refine e_if_ne_f f23_75 hc21 ?_
    refine e_qload f23_78 rfl ?_
    refine e_iload_n f23_80 rfl ?_
    obtain ⟨o22, ho23, hp⟩ := bind_some hp
    try dsimp only at hp
    rw [ho23]
    by_cases hg24 : hT (h) (o22) = 5
    rotate_left
    · rw [if_neg hg24] at hp; cases hp
    rw [if_pos hg24] at hp
    obtain ⟨r25, hr26, hp⟩ := bind_some hp
    try dsimp only at hp
    refine e_callV (st := []) (o := o22) (as := [.int (a2)]) f23_81 (by decide) rfl rfl (Nat.le_of_ble_eq_true rfl) hg24 (Nat.le_of_ble_eq_true rfl) (p70_ok (d + 1) (h) w (o22) (a2) hg24 r25 hr26) ?_
    show ex _ 23 (84, [some (.ref (50)), some (.int (a0)), some (.int (a1)), some (.int (a2)), some (.int (a3)), some (.long (v5)), none, some (.int (v7)), some (.ref (o22)), some (.int (s0))], [.int (r25)], h) = _
    by_cases hc27 : (r25) = (0 : Int32)
    · rw [if_pos hc27] at hp
      refine e_if_eq_t f23_84 hc27 ?_
      refine ex_weak (ls := [some (.ref (50)), some (.int (a0)), some (.int (a1)), some (.int (a2)), some (.int (a3)), some (.long (v5)), none, some (.int (v7)), none, none]) (le2_ok ⟨Or.inr rfl, Or.inr rfl, Or.inr rfl, Or.inr rfl, Or.inr rfl, Or.inr rfl, Or.inl rfl, Or.inr rfl, Or.inl rfl, Or.inl rfl, trivial⟩) ?_
      exact p23_j115_ok d F a0 a1 a2 a3 (K9) (h) (w) (hK9) (v5) (v7) _ hp
    · rw [if_neg hc27] at hp
      refine e_if_eq_f f23_84 hc27 ?_
      refine e_aload f23_87 rfl ?_
      refine e_getI f23_89 hg24 (by decide) ?_
      refine e_sipush (v := 4000) f23_92 (by decide) ?_
      by_cases hc28 : (hI (h) (o22) 2) = ((4000) : Int32)
      · rw [if_pos hc28] at hp
        refine e_icmp_ne_f f23_95 hc28 ?_
        refine ex_weak (ls := [some (.ref (50)), some (.int (a0)), some (.int (a1)), some (.int (a2)), some (.int (a3)), some (.long (v5)), none, some (.int (v7)), some (.ref (o22)), none]) (le2_ok ⟨Or.inr rfl, Or.inr rfl, Or.inr rfl, Or.inr rfl, Or.inr rfl, Or.inr rfl, Or.inl rfl, Or.inr rfl, Or.inr rfl, Or.inl rfl, trivial⟩) ?_
        exact p23_j98_ok d F a0 a1 a2 a3 (K9) (h) (w) (hK9) (v5) (v7) (some (o22)) _ hp
      · rw [if_neg hc28] at hp
        refine e_icmp_ne_t f23_95 hc28 ?_
        refine ex_weak (ls := [some (.ref (50)), some (.int (a0)), some (.int (a1)), some (.int (a2)), some (.int (a3)), some (.long (v5)), none, some (.int (v7)), none, none]) (le2_ok ⟨Or.inr rfl, Or.inr rfl, Or.inr rfl, Or.inr rfl, Or.inr rfl, Or.inr rfl, Or.inl rfl, Or.inr rfl, Or.inl rfl, Or.inl rfl, trivial⟩) ?_
        exact p23_j115_ok d F a0 a1 a2 a3 (K9) (h) (w) (hK9) (v5) (v7) _ hp
  · rw [if_neg hc21] at hp
    refine e_if_ne_t f23_75 hc21 ?_
    refine ex_weak (ls := [some (.ref (50)), some (.int (a0)), some (.int (a1)), some (.int (a2)), some (.int (a3)), some (.long (v5)), none, some (.int (v7)), some (va_rf (v8)), none]) (le2_ok ⟨Or.inr rfl, Or.inr rfl, Or.inr rfl, Or.inr rfl, Or.inr rfl, Or.inr rfl, Or.inl rfl, Or.inr rfl, Or.inr rfl, Or.inl rfl, trivial⟩) ?_
    exact p23_j98_ok d F a0 a1 a2 a3 (K9) (h) (w) (hK9) (v5) (v7) (v8) _ hp
set_option maxRecDepth 100000 in
set_option maxHeartbeats 4000000 in
theorem p23_j70_ok (d : Nat) (F : Nat) (a0 : Int32) (a1 : Int32) (a2 : Int32) (a3 : Int32) (K9 : Int64 → Int32 → Option (Int64)) (h : HS) (w : WF h) (hK9 : ∀ (u5 : Int64) (u7 : Int32) (r : Int64), K9 u5 u7 = some r → ex (d + 2) 23 (9, [some (.ref (50)), some (.int (a0)), some (.int (a1)), some (.int (a2)), some (.int (a3)), some (.long (u5)), none, some (.int (u7)), none, none], [], h) = some (some (.long (r)), h)) (v5 : Int64) (v7 : Int32) (v8 : Option Nat) (r : Int64) (hp : p23_j70 F a0 a1 a2 a3 K9 h v5 v7 v8 = some r) : ex (d + 2) 23 (70, [some (.ref (50)), some (.int (a0)), some (.int (a1)), some (.int (a2)), some (.int (a3)), some (.long (v5)), none, some (.int (v7)), some (va_rf (v8)), none], [], h) = some (some (.long (r)), h) := by
  unfold p23_j70 at hp
  refine e_iconst (v := 0) f23_70 (by decide) ?_
  refine ex_weak (ls := [some (.ref (50)), some (.int (a0)), some (.int (a1)), some (.int (a2)), some (.int (a3)), some (.long (v5)), none, some (.int (v7)), some (va_rf (v8)), none]) (le2_ok ⟨Or.inr rfl, Or.inr rfl, Or.inr rfl, Or.inr rfl, Or.inr rfl, Or.inr rfl, Or.inl rfl, Or.inr rfl, Or.inr rfl, Or.inl rfl, trivial⟩) ?_
  exact p23_j71_ok d F a0 a1 a2 a3 (K9) (h) (w) (hK9) (v5) (v7) (v8) (0) _ hp
set_option maxRecDepth 100000 in
set_option maxHeartbeats 4000000 in
theorem p23_L9_ok (d : Nat) (F : Nat) (a0 : Int32) (a1 : Int32) (a2 : Int32) (a3 : Int32) (h : HS) (w : WF h)  : ∀ (n : Nat) (v5 : Int64) (v7 : Int32) (r : Int64), p23_L9 F a0 a1 a2 a3 n h v5 v7 = some r → ex (d + 2) 23 (9, [some (.ref (50)), some (.int (a0)), some (.int (a1)), some (.int (a2)), some (.int (a3)), some (.long (v5)), none, some (.int (v7)), none, none], [], h) = some (some (.long (r)), h) := by
  intro n
  induction n with
  | zero => intro v5 v7 r hp; cases hp
  | succ n ih =>
    intro v5 v7 r hp
    unfold p23_L9 at hp
    refine e_iload f23_9 rfl ?_
    refine e_aload_n f23_11 rfl ?_
    refine e_getI f23_12 (WF.t w 50 (by decide)) (by decide) ?_
    by_cases hc3 : (v7) < ((hI (h) (50) 3) : Int32)
    · rw [if_pos hc3] at hp
      refine e_icmp_ge_f f23_15 hc3 ?_
      refine e_aload_n f23_18 rfl ?_
      refine e_getR f23_19 (WF.t w 50 (by decide)) rfl (WF.r (q := 54) w 50 8 (by decide)) ?_
      refine e_iload f23_22 rfl ?_
      by_cases hg4 : (v7) < (0 : Int32) ∨ 200 ≤ (v7).toNatClampNeg
      · rw [if_pos hg4] at hp; cases hp
      rw [if_neg hg4] at hp
      refine e_aaload f23_24 (Or.inr (Or.inr (Or.inr (WF.t w 54 (by decide))))) (WF.n w 54 (by decide)) hg4 ?_
      refine e_qstore (ls2 := [some (.ref (50)), some (.int (a0)), some (.int (a1)), some (.int (a2)), some (.int (a3)), some (.long (v5)), none, some (.int (v7)), some (va_rf (hR (h) (54) (v7).toNatClampNeg)), none]) f23_25 (Nat.le_of_ble_eq_true rfl) rfl ?_
      refine e_qload f23_27 rfl ?_
      obtain ⟨o5, ho6, hp⟩ := bind_some hp
      try dsimp only at hp
      rw [ho6]
      by_cases hg7 : hT (h) (o5) = 5
      rotate_left
      · rw [if_neg hg7] at hp; cases hp
      rw [if_pos hg7] at hp
      refine e_getI f23_29 hg7 (by decide) ?_
      refine e_iload_n f23_32 rfl ?_
      by_cases hc8 : (hI (h) (o5) 3) = ((a1) : Int32)
      · rw [if_pos hc8] at hp
        refine e_icmp_ne_f f23_33 hc8 ?_
        refine e_aload f23_36 rfl ?_
        refine e_getQ f23_38 hg7 rfl ?_
        by_cases hc9 : (hR (h) (o5) 0) = none
        · rw [if_pos hc9] at hp
          rw [hc9]
          refine e_ifnull_t f23_41 ?_
          refine ex_weak (ls := [some (.ref (50)), some (.int (a0)), some (.int (a1)), some (.int (a2)), some (.int (a3)), some (.long (v5)), none, some (.int (v7)), none, none]) (le2_ok ⟨Or.inr rfl, Or.inr rfl, Or.inr rfl, Or.inr rfl, Or.inr rfl, Or.inr rfl, Or.inl rfl, Or.inr rfl, Or.inl rfl, Or.inl rfl, trivial⟩) ?_
          exact p23_j115_ok d F a0 a1 a2 a3 ((p23_L9 F a0 a1 a2 a3 n h)) (h) (w) (ih) (v5) (v7) _ hp
        · rw [if_neg hc9] at hp
          obtain ⟨o10, ho11, hp⟩ := bind_some hp
          try dsimp only at hp
          rw [ho11]
          refine e_ifnull_f f23_41 ?_
          refine e_aload f23_44 rfl ?_
          refine e_iload f23_46 rfl ?_
          obtain ⟨r12, hr13, hp⟩ := bind_some hp
          try dsimp only at hp
          refine e_callV (st := []) (o := o5) (as := [.int (a3)]) f23_48 (by decide) rfl rfl (Nat.le_of_ble_eq_true rfl) hg7 (Nat.le_of_ble_eq_true rfl) (p69_ok (d + 1) (h) w (o5) (a3) hg7 r12 hr13) ?_
          show ex _ 23 (51, [some (.ref (50)), some (.int (a0)), some (.int (a1)), some (.int (a2)), some (.int (a3)), some (.long (v5)), none, some (.int (v7)), some (.ref (o5)), none], [.int (r12)], h) = _
          by_cases hc14 : (r12) = (0 : Int32)
          · rw [if_pos hc14] at hp
            refine e_if_eq_t f23_51 hc14 ?_
            refine ex_weak (ls := [some (.ref (50)), some (.int (a0)), some (.int (a1)), some (.int (a2)), some (.int (a3)), some (.long (v5)), none, some (.int (v7)), some (.ref (o5)), none]) (le2_ok ⟨Or.inr rfl, Or.inr rfl, Or.inr rfl, Or.inr rfl, Or.inr rfl, Or.inr rfl, Or.inl rfl, Or.inr rfl, Or.inr rfl, Or.inl rfl, trivial⟩) ?_
            exact p23_j70_ok d F a0 a1 a2 a3 ((p23_L9 F a0 a1 a2 a3 n h)) (h) (w) (ih) (v5) (v7) (some (o5)) _ hp
          · rw [if_neg hc14] at hp
            refine e_if_eq_f f23_51 hc14 ?_
            refine e_aload f23_54 rfl ?_
            refine e_getQ f23_56 hg7 rfl ?_
            refine e_iload_n f23_59 rfl ?_
            obtain ⟨o15, ho16, hp⟩ := bind_some hp
            try dsimp only at hp
            rw [ho16]
            by_cases hg17 : hT (h) (o15) = 9
            rotate_left
            · rw [if_neg hg17] at hp; cases hp
            rw [if_pos hg17] at hp
            obtain ⟨r18, hr19, hp⟩ := bind_some hp
            try dsimp only at hp
            refine e_callV (st := []) (o := o15) (as := [.int (a0)]) f23_60 (by decide) rfl rfl (Nat.le_of_ble_eq_true rfl) hg17 (Nat.le_of_ble_eq_true rfl) (p99_ok (d + 1) F (h) w (o15) (a0) hg17 r18 hr19) ?_
            show ex _ 23 (63, [some (.ref (50)), some (.int (a0)), some (.int (a1)), some (.int (a2)), some (.int (a3)), some (.long (v5)), none, some (.int (v7)), some (.ref (o5)), none], [.int (r18)], h) = _
            by_cases hc20 : (r18) = (0 : Int32)
            · rw [if_pos hc20] at hp
              refine e_if_eq_t f23_63 hc20 ?_
              refine ex_weak (ls := [some (.ref (50)), some (.int (a0)), some (.int (a1)), some (.int (a2)), some (.int (a3)), some (.long (v5)), none, some (.int (v7)), some (.ref (o5)), none]) (le2_ok ⟨Or.inr rfl, Or.inr rfl, Or.inr rfl, Or.inr rfl, Or.inr rfl, Or.inr rfl, Or.inl rfl, Or.inr rfl, Or.inr rfl, Or.inl rfl, trivial⟩) ?_
              exact p23_j70_ok d F a0 a1 a2 a3 ((p23_L9 F a0 a1 a2 a3 n h)) (h) (w) (ih) (v5) (v7) (some (o5)) _ hp
            · rw [if_neg hc20] at hp
              refine e_if_eq_f f23_63 hc20 ?_
              refine e_iconst (v := 1) f23_66 (by decide) ?_
              refine e_goto f23_67 ?_
              refine ex_weak (ls := [some (.ref (50)), some (.int (a0)), some (.int (a1)), some (.int (a2)), some (.int (a3)), some (.long (v5)), none, some (.int (v7)), some (.ref (o5)), none]) (le2_ok ⟨Or.inr rfl, Or.inr rfl, Or.inr rfl, Or.inr rfl, Or.inr rfl, Or.inr rfl, Or.inl rfl, Or.inr rfl, Or.inr rfl, Or.inl rfl, trivial⟩) ?_
              exact p23_j71_ok d F a0 a1 a2 a3 ((p23_L9 F a0 a1 a2 a3 n h)) (h) (w) (ih) (v5) (v7) (some (o5)) (1) _ hp
      · rw [if_neg hc8] at hp
        refine e_icmp_ne_t f23_33 hc8 ?_
        refine ex_weak (ls := [some (.ref (50)), some (.int (a0)), some (.int (a1)), some (.int (a2)), some (.int (a3)), some (.long (v5)), none, some (.int (v7)), none, none]) (le2_ok ⟨Or.inr rfl, Or.inr rfl, Or.inr rfl, Or.inr rfl, Or.inr rfl, Or.inr rfl, Or.inl rfl, Or.inr rfl, Or.inl rfl, Or.inl rfl, trivial⟩) ?_
        exact p23_j115_ok d F a0 a1 a2 a3 ((p23_L9 F a0 a1 a2 a3 n h)) (h) (w) (ih) (v5) (v7) _ hp
    · rw [if_neg hc3] at hp
      refine e_icmp_ge_t f23_15 hc3 ?_
      refine e_lload f23_121 rfl ?_
      have hp := Option.some.inj hp
      subst hp
      exact e_lreturn f23_123
set_option maxRecDepth 100000 in
set_option maxHeartbeats 4000000 in
theorem p23_ok (d : Nat) (F : Nat) (h : HS) (w : WF h) (a0 : Int32) (a1 : Int32) (a2 : Int32) (a3 : Int32) (r : Int64) (hp : p23 F h a0 a1 a2 a3 = some r) : ex (d + 2) 23 (ent 23 [.ref (50), .int (a0), .int (a1), .int (a2), .int (a3)] h) = some (some (.long (r)), h) := by
  rw [show ent 23 [.ref (50), .int (a0), .int (a1), .int (a2), .int (a3)] h = (0, [some (.ref (50)), some (.int (a0)), some (.int (a1)), some (.int (a2)), some (.int (a3)), none, none, none, none, none], [], h) from by  rfl]
  refine ex_weak (ls := [some (.ref (50)), some (.int (a0)), some (.int (a1)), some (.int (a2)), some (.int (a3)), none, none, none, none, none]) (le2_ok ⟨Or.inr rfl, Or.inr rfl, Or.inr rfl, Or.inr rfl, Or.inr rfl, Or.inr rfl, Or.inr rfl, Or.inr rfl, Or.inr rfl, Or.inr rfl, trivial⟩) ?_
  unfold p23 at hp
  refine e_aload_n f23_0 rfl ?_
  obtain ⟨r1, hr2, hp⟩ := bind_some hp
  try dsimp only at hp
  refine e_callV (st := []) (o := 50) (as := []) f23_1 (by decide) rfl rfl (Nat.le_of_ble_eq_true rfl) (WF.t w 50 (by decide)) (Nat.le_of_ble_eq_true rfl) (p10_ok (d + 1) (h) w r1 hr2) ?_
  show ex _ 23 (4, [some (.ref (50)), some (.int (a0)), some (.int (a1)), some (.int (a2)), some (.int (a3)), none, none, none, none, none], [.long (r1)], h) = _
  refine e_lstore (ls2 := [some (.ref (50)), some (.int (a0)), some (.int (a1)), some (.int (a2)), some (.int (a3)), some (.long (r1)), none, none, none, none]) f23_4 (Nat.le_of_ble_eq_true rfl) rfl ?_
  refine e_iconst (v := 0) f23_6 (by decide) ?_
  refine e_istore (ls2 := [some (.ref (50)), some (.int (a0)), some (.int (a1)), some (.int (a2)), some (.int (a3)), some (.long (r1)), none, some (.int (0)), none, none]) f23_7 (Nat.le_of_ble_eq_true rfl) rfl ?_
  refine ex_weak (ls := [some (.ref (50)), some (.int (a0)), some (.int (a1)), some (.int (a2)), some (.int (a3)), some (.long (r1)), none, some (.int (0)), none, none]) (le2_ok ⟨Or.inr rfl, Or.inr rfl, Or.inr rfl, Or.inr rfl, Or.inr rfl, Or.inr rfl, Or.inl rfl, Or.inr rfl, Or.inl rfl, Or.inl rfl, trivial⟩) ?_
  exact p23_L9_ok d F a0 a1 a2 a3 (h) (w) F (r1) (0) _ hp
theorem f24_0 : fetch 24 0 = some (.aload_n 0, 0, 0, 0) := rfl
theorem f24_1 : fetch 24 1 = some (.invokespecial 3, 0, 0, 5) := rfl
theorem f24_4 : fetch 24 4 = some (.aload_n 0, 0, 0, 0) := rfl
theorem f24_5 : fetch 24 5 = some (.bipush 80, 0, 0, 0) := rfl
theorem f24_7 : fetch 24 7 = some (.newarray .long, 23, 0, 0) := rfl
theorem f24_9 : fetch 24 9 = some (.putfield 9, 1, 6, 2) := rfl
theorem f24_12 : fetch 24 12 = some (.aload_n 0, 0, 0, 0) := rfl
theorem f24_13 : fetch 24 13 = some (.iload_n 1, 0, 0, 0) := rfl
theorem f24_14 : fetch 24 14 = some (.putfield 15, 1, 0, 0) := rfl
theorem f24_17 : fetch 24 17 = some (.aload_n 0, 0, 0, 0) := rfl
theorem f24_18 : fetch 24 18 = some (.aload_n 2, 0, 0, 0) := rfl
theorem f24_19 : fetch 24 19 = some (.getfield 19, 2, 7, 2) := rfl
theorem f24_22 : fetch 24 22 = some (.aload_n 2, 0, 0, 0) := rfl
theorem f24_23 : fetch 24 23 = some (.getfield 25, 2, 5, 0) := rfl
theorem f24_26 : fetch 24 26 = some (.invokestatic 28, 0, 2, 8) := rfl
theorem f24_29 : fetch 24 29 = some (.putfield 34, 1, 3, 2) := rfl
theorem f24_32 : fetch 24 32 = some (.aload_n 0, 0, 0, 0) := rfl
theorem f24_33 : fetch 24 33 = some (.aload_n 2, 0, 0, 0) := rfl
theorem f24_34 : fetch 24 34 = some (.getfield 35, 2, 8, 2) := rfl
theorem f24_37 : fetch 24 37 = some (.aload_n 2, 0, 0, 0) := rfl
theorem f24_38 : fetch 24 38 = some (.getfield 25, 2, 5, 0) := rfl
theorem f24_41 : fetch 24 41 = some (.invokestatic 28, 0, 2, 8) := rfl
theorem f24_44 : fetch 24 44 = some (.putfield 38, 1, 2, 2) := rfl
theorem f24_47 : fetch 24 47 = some (.aload_n 0, 0, 0, 0) := rfl
theorem f24_48 : fetch 24 48 = some (.aload_n 2, 0, 0, 0) := rfl
theorem f24_49 : fetch 24 49 = some (.getfield 39, 2, 9, 2) := rfl
theorem f24_52 : fetch 24 52 = some (.aload_n 2, 0, 0, 0) := rfl
theorem f24_53 : fetch 24 53 = some (.getfield 25, 2, 5, 0) := rfl
theorem f24_56 : fetch 24 56 = some (.invokestatic 28, 0, 2, 8) := rfl
theorem f24_59 : fetch 24 59 = some (.putfield 42, 1, 4, 2) := rfl
theorem f24_62 : fetch 24 62 = some (.aload_n 0, 0, 0, 0) := rfl
theorem f24_63 : fetch 24 63 = some (.aload_n 2, 0, 0, 0) := rfl
theorem f24_64 : fetch 24 64 = some (.getfield 43, 2, 10, 2) := rfl
theorem f24_67 : fetch 24 67 = some (.aload_n 2, 0, 0, 0) := rfl
theorem f24_68 : fetch 24 68 = some (.getfield 46, 2, 6, 0) := rfl
theorem f24_71 : fetch 24 71 = some (.invokestatic 28, 0, 2, 8) := rfl
theorem f24_74 : fetch 24 74 = some (.putfield 49, 1, 5, 2) := rfl
theorem f24_77 : fetch 24 77 = some (.iconst 0, 0, 0, 0) := rfl
theorem f24_78 : fetch 24 78 = some (.istore_n 3, 0, 0, 0) := rfl
theorem f24_79 : fetch 24 79 = some (.iconst 0, 0, 0, 0) := rfl
theorem f24_80 : fetch 24 80 = some (.istore 4, 0, 0, 0) := rfl
theorem f24_82 : fetch 24 82 = some (.iload 4, 0, 0, 0) := rfl
theorem f24_84 : fetch 24 84 = some (.aload_n 0, 0, 0, 0) := rfl
theorem f24_85 : fetch 24 85 = some (.getfield 49, 1, 5, 2) := rfl
theorem f24_88 : fetch 24 88 = some (.arraylength, 0, 0, 0) := rfl
theorem f24_89 : fetch 24 89 = some (.if_icmp .ge 30, 119, 0, 0) := rfl
theorem f24_92 : fetch 24 92 = some (.iload_n 3, 0, 0, 0) := rfl
theorem f24_93 : fetch 24 93 = some (.aload_n 0, 0, 0, 0) := rfl
theorem f24_94 : fetch 24 94 = some (.getfield 49, 1, 5, 2) := rfl
theorem f24_97 : fetch 24 97 = some (.iload 4, 0, 0, 0) := rfl
theorem f24_99 : fetch 24 99 = some (.iaload, 0, 0, 0) := rfl
theorem f24_100 : fetch 24 100 = some (.sipush 10012, 0, 0, 0) := rfl
theorem f24_103 : fetch 24 103 = some (.if_icmp .ne 7, 110, 0, 0) := rfl
theorem f24_106 : fetch 24 106 = some (.iconst 1, 0, 0, 0) := rfl
theorem f24_107 : fetch 24 107 = some (.goto 4, 111, 0, 0) := rfl
theorem f24_110 : fetch 24 110 = some (.iconst 0, 0, 0, 0) := rfl
theorem f24_111 : fetch 24 111 = some (.ior, 0, 0, 0) := rfl
theorem f24_112 : fetch 24 112 = some (.istore_n 3, 0, 0, 0) := rfl
theorem f24_113 : fetch 24 113 = some (.iinc 4 1, 0, 0, 0) := rfl
theorem f24_116 : fetch 24 116 = some (.goto (-34), 82, 0, 0) := rfl
theorem f24_119 : fetch 24 119 = some (.aload_n 0, 0, 0, 0) := rfl
theorem f24_120 : fetch 24 120 = some (.iload_n 3, 0, 0, 0) := rfl
theorem f24_121 : fetch 24 121 = some (.putfield 50, 1, 1, 1) := rfl
theorem f24_124 : fetch 24 124 = some (.return_, 0, 0, 0) := rfl
set_option maxRecDepth 100000 in
set_option maxHeartbeats 4000000 in
theorem p24_j111_ok (d : Nat) (F : Nat) (o : Nat) (a0 : Int32) (K82 : HS → Int32 → Int32 → Option (HS)) (hK82 : ∀ (h : HS) (w : WF h) (ho : hT h o = 1) (u3 : Int32) (u4 : Int32) (r : HS), K82 h u3 u4 = some r → ex (d + 0) 24 (82, [some (.ref (o)), none, none, some (.int (u3)), some (.int (u4))], [], h) = some (none, r)) (h : HS) (w : WF h) (ho : hT h o = 1) (v4 : Int32) (s0 : Int32) (s1 : Int32) (r : HS) (hp : p24_j111 F o a0 K82 h v4 s0 s1 = some r) : ex (d + 0) 24 (111, [some (.ref (o)), none, none, none, some (.int (v4))], [.int (s0), .int (s1)], h) = some (none, r) := by
  unfold p24_j111 at hp
  refine e_ior f24_111 ?_
  refine e_istore_n (ls2 := [some (.ref (o)), none, none, some (.int ((s1) ||| (s0))), some (.int (v4))]) f24_112 (Nat.le_of_ble_eq_true rfl) rfl ?_
  refine e_iinc (ls2 := [some (.ref (o)), none, none, some (.int ((s1) ||| (s0))), some (.int ((v4) + 1))]) f24_113 (by decide) rfl rfl ?_
  refine e_goto f24_116 ?_
  refine ex_weak (ls := [some (.ref (o)), none, none, some (.int ((s1) ||| (s0))), some (.int ((v4) + 1))]) (le2_ok ⟨Or.inr rfl, Or.inl rfl, Or.inl rfl, Or.inr rfl, Or.inr rfl, trivial⟩) ?_
  exact hK82 (h) (w) (ho) ((s1) ||| (s0)) ((v4) + 1) _ hp
set_option maxRecDepth 100000 in
set_option maxHeartbeats 4000000 in
theorem p24_j111_w (F : Nat) (o : Nat) (a0 : Int32) (K82 : HS → Int32 → Int32 → Option (HS)) (hK82 : ∀ (h : HS) (w : WF h) (ho : hT h o = 1) (u3 : Int32) (u4 : Int32) (r : HS), K82 h u3 u4 = some r → WF r) (h : HS) (w : WF h) (ho : hT h o = 1) (v4 : Int32) (s0 : Int32) (s1 : Int32) (r : HS) (hp : p24_j111 F o a0 K82 h v4 s0 s1 = some r) : WF r := by
  unfold p24_j111 at hp
  exact hK82 (h) (w) (ho) ((s1) ||| (s0)) ((v4) + 1) _ hp
set_option maxRecDepth 100000 in
set_option maxHeartbeats 4000000 in
theorem p24_L82_ok (d : Nat) (F : Nat) (o : Nat) (a0 : Int32) : ∀ (n : Nat) (h : HS) (w : WF h) (ho : hT h o = 1) (v3 : Int32) (v4 : Int32) (r : HS), p24_L82 F o a0 n h v3 v4 = some r → ex (d + 0) 24 (82, [some (.ref (o)), none, none, some (.int (v3)), some (.int (v4))], [], h) = some (none, r) := by
  intro n
  induction n with
  | zero => intro h w ho v3 v4 r hp; cases hp
  | succ n ih =>
    intro h w ho v3 v4 r hp
    unfold p24_L82 at hp
    refine e_iload f24_82 rfl ?_
    refine e_aload_n f24_84 rfl ?_
    refine e_getQ f24_85 ho rfl ?_
    obtain ⟨o28, ho29, hp⟩ := bind_some hp
    try dsimp only at hp
    rw [ho29]
    by_cases hg30 : hT (h) (o28) = 20
    rotate_left
    · rw [if_neg hg30] at hp; cases hp
    rw [if_pos hg30] at hp
    refine e_arraylength (v := Int32.ofNat (hN (h) (o28))) f24_88 (Or.inl ⟨by rw [hg30]; decide, by rw [hg30]; decide⟩) rfl ?_
    by_cases hc31 : (v4) < ((Int32.ofNat (hN (h) (o28))) : Int32)
    · rw [if_pos hc31] at hp
      refine e_icmp_ge_f f24_89 hc31 ?_
      refine e_iload_n f24_92 rfl ?_
      refine e_aload_n f24_93 rfl ?_
      refine e_getQ f24_94 ho rfl ?_
      refine e_iload f24_97 rfl ?_
      obtain ⟨o32, ho33, hp⟩ := bind_some hp
      try dsimp only at hp
      rw [ho33]
      by_cases hg34 : hT (h) (o32) = 20
      rotate_left
      · rw [if_neg hg34] at hp; cases hp
      rw [if_pos hg34] at hp
      by_cases hg35 : (v4) < (0 : Int32) ∨ hN (h) (o32) ≤ (v4).toNatClampNeg
      · rw [if_pos hg35] at hp; cases hp
      rw [if_neg hg35] at hp
      refine e_iaload f24_99 (Or.inl hg34) rfl hg35 ?_
      refine e_sipush (v := 10012) f24_100 (by decide) ?_
      by_cases hc36 : (hI (h) (o32) (v4).toNatClampNeg) = ((10012) : Int32)
      · rw [if_pos hc36] at hp
        refine e_icmp_ne_f f24_103 hc36 ?_
        refine e_iconst (v := 1) f24_106 (by decide) ?_
        refine e_goto f24_107 ?_
        refine ex_weak (ls := [some (.ref (o)), none, none, none, some (.int (v4))]) (le2_ok ⟨Or.inr rfl, Or.inl rfl, Or.inl rfl, Or.inl rfl, Or.inr rfl, trivial⟩) ?_
        exact p24_j111_ok d F o a0 ((p24_L82 F o a0 n)) (ih) (h) (w) (ho) (v4) (1) (v3) _ hp
      · rw [if_neg hc36] at hp
        refine e_icmp_ne_t f24_103 hc36 ?_
        refine e_iconst (v := 0) f24_110 (by decide) ?_
        refine ex_weak (ls := [some (.ref (o)), none, none, none, some (.int (v4))]) (le2_ok ⟨Or.inr rfl, Or.inl rfl, Or.inl rfl, Or.inl rfl, Or.inr rfl, trivial⟩) ?_
        exact p24_j111_ok d F o a0 ((p24_L82 F o a0 n)) (ih) (h) (w) (ho) (v4) (0) (v3) _ hp
    · rw [if_neg hc31] at hp
      refine e_icmp_ge_t f24_89 hc31 ?_
      refine e_aload_n f24_119 rfl ?_
      refine e_iload_n f24_120 rfl ?_
      by_cases hg37 : (v3) = (0 : Int32) ∨ (v3) = (1 : Int32)
      rotate_left
      · rw [if_neg hg37] at hp; cases hp
      rw [if_pos hg37] at hp
      refine e_putZ f24_121 ho rfl hg37 ?_
      have hp := Option.some.inj hp
      subst hp
      exact e_return f24_124
set_option maxRecDepth 100000 in
set_option maxHeartbeats 4000000 in
theorem p24_L82_w (F : Nat) (o : Nat) (a0 : Int32) : ∀ (n : Nat) (h : HS) (w : WF h) (ho : hT h o = 1) (v3 : Int32) (v4 : Int32) (r : HS), p24_L82 F o a0 n h v3 v4 = some r → WF r := by
  intro n
  induction n with
  | zero => intro h w ho v3 v4 r hp; cases hp
  | succ n ih =>
    intro h w ho v3 v4 r hp
    unfold p24_L82 at hp
    obtain ⟨o28, ho29, hp⟩ := bind_some hp
    try dsimp only at hp
    by_cases hg30 : hT (h) (o28) = 20
    rotate_left
    · rw [if_neg hg30] at hp; cases hp
    rw [if_pos hg30] at hp
    by_cases hc31 : (v4) < ((Int32.ofNat (hN (h) (o28))) : Int32)
    · rw [if_pos hc31] at hp
      obtain ⟨o32, ho33, hp⟩ := bind_some hp
      try dsimp only at hp
      by_cases hg34 : hT (h) (o32) = 20
      rotate_left
      · rw [if_neg hg34] at hp; cases hp
      rw [if_pos hg34] at hp
      by_cases hg35 : (v4) < (0 : Int32) ∨ hN (h) (o32) ≤ (v4).toNatClampNeg
      · rw [if_pos hg35] at hp; cases hp
      rw [if_neg hg35] at hp
      by_cases hc36 : (hI (h) (o32) (v4).toNatClampNeg) = ((10012) : Int32)
      · rw [if_pos hc36] at hp
        exact p24_j111_w F o a0 ((p24_L82 F o a0 n)) (ih) (h) (w) (ho) (v4) (1) (v3) _ hp
      · rw [if_neg hc36] at hp
        exact p24_j111_w F o a0 ((p24_L82 F o a0 n)) (ih) (h) (w) (ho) (v4) (0) (v3) _ hp
    · rw [if_neg hc31] at hp
      by_cases hg37 : (v3) = (0 : Int32) ∨ (v3) = (1 : Int32)
      rotate_left
      · rw [if_neg hg37] at hp; cases hp
      rw [if_pos hg37] at hp
      have hp := Option.some.inj hp
      subst hp
      exact (w)
set_option maxRecDepth 100000 in
set_option maxHeartbeats 4000000 in
theorem p24_ok (d : Nat) (F : Nat) (h : HS) (w : WF h) (o : Nat) (a0 : Int32) (ho : hT h o = 1) (r : HS) (hp : p24 F h o a0 = some r) : ex (d + 0) 24 (ent 24 [.ref (o), .int (a0), .ref (61)] h) = some (none, r) := by
  rw [show ent 24 [.ref (o), .int (a0), .ref (61)] h = (0, [some (.ref (o)), some (.int (a0)), some (.ref (61)), none, none], [], h) from by  rfl]
  refine ex_weak (ls := [some (.ref (o)), some (.int (a0)), some (.ref (61)), none, none]) (le2_ok ⟨Or.inr rfl, Or.inr rfl, Or.inr rfl, Or.inr rfl, Or.inr rfl, trivial⟩) ?_
  unfold p24 at hp
  refine e_aload_n f24_0 rfl ?_
  refine e_obj f24_1 rfl (Nat.le_of_ble_eq_true rfl) ?_
  refine e_aload_n f24_4 rfl ?_
  refine e_bipush (v := 80) f24_5 (by decide) ?_
  refine e_newarray f24_7 (by decide) ?_
  obtain ⟨h1, e2, hp⟩ := bind_some hp
  try dsimp only at hp
  have e2 := Option.some.inj e2
  have w3 : WF h1 := e2 ▸ (WF.nw (t := 23) (n := (80 : Int32).toNatClampNeg) (f := fun _ => 0) w)
  rw [e2]
  by_cases hg4 : hT (h1) (o) = 1
  rotate_left
  · rw [if_neg hg4] at hp; cases hp
  rw [if_pos hg4] at hp
  refine e_putR f24_9 hg4 rfl ?_
  refine e_aload_n f24_12 rfl ?_
  refine e_iload_n f24_13 rfl ?_
  refine e_putI f24_14 hg4 rfl ?_
  refine e_aload_n f24_17 rfl ?_
  refine e_aload_n f24_18 rfl ?_
  refine e_getR f24_19 (WF.t (WF.rr (j := 6) (v := some ((h).1)) w3 (o) (WF.own w3 hg4)) 61 (by decide)) rfl (WF.r (q := 62) (WF.rr (j := 6) (v := some ((h).1)) w3 (o) (WF.own w3 hg4)) 61 7 (by decide)) ?_
  refine e_aload_n f24_22 rfl ?_
  refine e_getI f24_23 (WF.t (WF.rr (j := 6) (v := some ((h).1)) w3 (o) (WF.own w3 hg4)) 61 (by decide)) (by decide) ?_
  by_cases hg5 : (hI (hsI (hsR (h1) (o) 6 (some ((h).1))) (o) 0 (a0)) (61) 5) < (0 : Int32) ∨ hN (hsI (hsR (h1) (o) 6 (some ((h).1))) (o) 0 (a0)) (62) < (hI (hsI (hsR (h1) (o) 6 (some ((h).1))) (o) 0 (a0)) (61) 5).toNatClampNeg
  · rw [if_pos hg5] at hp; cases hp
  rw [if_neg hg5] at hp
  refine e_cpy f24_26 rfl (WF.t (WF.rr (j := 6) (v := some ((h).1)) w3 (o) (WF.own w3 hg4)) 62 (by decide)) (Nat.le_of_ble_eq_true rfl) (Nat.le_trans (Nat.le_of_eq (WF.n (WF.rr (j := 6) (v := some ((h).1)) w3 (o) (WF.own w3 hg4)) 62 (by decide))) (by decide)) hg5 ?_
  obtain ⟨h6, e7, hp⟩ := bind_some hp
  try dsimp only at hp
  have e7 := Option.some.inj e7
  have w8 : WF h6 := e7 ▸ (WF.nw (t := 20) (n := (hI (hsI (hsR (h1) (o) 6 (some ((h).1))) (o) 0 (a0)) (61) 5).toNatClampNeg) (f := fun j => if j < (hI (hsI (hsR (h1) (o) 6 (some ((h).1))) (o) 0 (a0)) (61) 5).toNatClampNeg then hI (hsI (hsR (h1) (o) 6 (some ((h).1))) (o) 0 (a0)) (62) j else 0) (WF.rr (j := 6) (v := some ((h).1)) w3 (o) (WF.own w3 hg4)))
  rw [e7]
  by_cases hg9 : hT (h6) (o) = 1
  rotate_left
  · rw [if_neg hg9] at hp; cases hp
  rw [if_pos hg9] at hp
  refine e_putR f24_29 hg9 rfl ?_
  refine e_aload_n f24_32 rfl ?_
  refine e_aload_n f24_33 rfl ?_
  refine e_getR f24_34 (WF.t (WF.rr (j := 3) (v := some ((hsI (hsR (h1) (o) 6 (some ((h).1))) (o) 0 (a0)).1)) w8 (o) (WF.own w8 hg9)) 61 (by decide)) rfl (WF.r (q := 63) (WF.rr (j := 3) (v := some ((hsI (hsR (h1) (o) 6 (some ((h).1))) (o) 0 (a0)).1)) w8 (o) (WF.own w8 hg9)) 61 8 (by decide)) ?_
  refine e_aload_n f24_37 rfl ?_
  refine e_getI f24_38 (WF.t (WF.rr (j := 3) (v := some ((hsI (hsR (h1) (o) 6 (some ((h).1))) (o) 0 (a0)).1)) w8 (o) (WF.own w8 hg9)) 61 (by decide)) (by decide) ?_
  by_cases hg10 : (hI (hsR (h6) (o) 3 (some ((hsI (hsR (h1) (o) 6 (some ((h).1))) (o) 0 (a0)).1))) (61) 5) < (0 : Int32) ∨ hN (hsR (h6) (o) 3 (some ((hsI (hsR (h1) (o) 6 (some ((h).1))) (o) 0 (a0)).1))) (63) < (hI (hsR (h6) (o) 3 (some ((hsI (hsR (h1) (o) 6 (some ((h).1))) (o) 0 (a0)).1))) (61) 5).toNatClampNeg
  · rw [if_pos hg10] at hp; cases hp
  rw [if_neg hg10] at hp
  refine e_cpy f24_41 rfl (WF.t (WF.rr (j := 3) (v := some ((hsI (hsR (h1) (o) 6 (some ((h).1))) (o) 0 (a0)).1)) w8 (o) (WF.own w8 hg9)) 63 (by decide)) (Nat.le_of_ble_eq_true rfl) (Nat.le_trans (Nat.le_of_eq (WF.n (WF.rr (j := 3) (v := some ((hsI (hsR (h1) (o) 6 (some ((h).1))) (o) 0 (a0)).1)) w8 (o) (WF.own w8 hg9)) 63 (by decide))) (by decide)) hg10 ?_
  obtain ⟨h11, e12, hp⟩ := bind_some hp
  try dsimp only at hp
  have e12 := Option.some.inj e12
  have w13 : WF h11 := e12 ▸ (WF.nw (t := 20) (n := (hI (hsR (h6) (o) 3 (some ((hsI (hsR (h1) (o) 6 (some ((h).1))) (o) 0 (a0)).1))) (61) 5).toNatClampNeg) (f := fun j => if j < (hI (hsR (h6) (o) 3 (some ((hsI (hsR (h1) (o) 6 (some ((h).1))) (o) 0 (a0)).1))) (61) 5).toNatClampNeg then hI (hsR (h6) (o) 3 (some ((hsI (hsR (h1) (o) 6 (some ((h).1))) (o) 0 (a0)).1))) (63) j else 0) (WF.rr (j := 3) (v := some ((hsI (hsR (h1) (o) 6 (some ((h).1))) (o) 0 (a0)).1)) w8 (o) (WF.own w8 hg9)))
  rw [e12]
  by_cases hg14 : hT (h11) (o) = 1
  rotate_left
  · rw [if_neg hg14] at hp; cases hp
  rw [if_pos hg14] at hp
  refine e_putR f24_44 hg14 rfl ?_
  obtain ⟨h15, e16, hp⟩ := bind_some hp
  try dsimp only at hp
  have e16 := Option.some.inj e16
  have w17 : WF h15 := e16 ▸ (WF.rr (j := 2) (v := some ((hsR (h6) (o) 3 (some ((hsI (hsR (h1) (o) 6 (some ((h).1))) (o) 0 (a0)).1))).1)) w13 (o) (WF.own w13 hg14))
  rw [e16]
  refine e_aload_n f24_47 rfl ?_
  refine e_aload_n f24_48 rfl ?_
  refine e_getR f24_49 (WF.t w17 61 (by decide)) rfl (WF.r (q := 64) w17 61 9 (by decide)) ?_
  refine e_aload_n f24_52 rfl ?_
  refine e_getI f24_53 (WF.t w17 61 (by decide)) (by decide) ?_
  by_cases hg18 : (hI (h15) (61) 5) < (0 : Int32) ∨ hN (h15) (64) < (hI (h15) (61) 5).toNatClampNeg
  · rw [if_pos hg18] at hp; cases hp
  rw [if_neg hg18] at hp
  refine e_cpy f24_56 rfl (WF.t w17 64 (by decide)) (Nat.le_of_ble_eq_true rfl) (Nat.le_trans (Nat.le_of_eq (WF.n w17 64 (by decide))) (by decide)) hg18 ?_
  obtain ⟨h19, e20, hp⟩ := bind_some hp
  try dsimp only at hp
  have e20 := Option.some.inj e20
  have w21 : WF h19 := e20 ▸ (WF.nw (t := 20) (n := (hI (h15) (61) 5).toNatClampNeg) (f := fun j => if j < (hI (h15) (61) 5).toNatClampNeg then hI (h15) (64) j else 0) w17)
  rw [e20]
  by_cases hg22 : hT (h19) (o) = 1
  rotate_left
  · rw [if_neg hg22] at hp; cases hp
  rw [if_pos hg22] at hp
  refine e_putR f24_59 hg22 rfl ?_
  refine e_aload_n f24_62 rfl ?_
  refine e_aload_n f24_63 rfl ?_
  refine e_getR f24_64 (WF.t (WF.rr (j := 4) (v := some ((h15).1)) w21 (o) (WF.own w21 hg22)) 61 (by decide)) rfl (WF.r (q := 65) (WF.rr (j := 4) (v := some ((h15).1)) w21 (o) (WF.own w21 hg22)) 61 10 (by decide)) ?_
  refine e_aload_n f24_67 rfl ?_
  refine e_getI f24_68 (WF.t (WF.rr (j := 4) (v := some ((h15).1)) w21 (o) (WF.own w21 hg22)) 61 (by decide)) (by decide) ?_
  by_cases hg23 : (hI (hsR (h19) (o) 4 (some ((h15).1))) (61) 6) < (0 : Int32) ∨ hN (hsR (h19) (o) 4 (some ((h15).1))) (65) < (hI (hsR (h19) (o) 4 (some ((h15).1))) (61) 6).toNatClampNeg
  · rw [if_pos hg23] at hp; cases hp
  rw [if_neg hg23] at hp
  refine e_cpy f24_71 rfl (WF.t (WF.rr (j := 4) (v := some ((h15).1)) w21 (o) (WF.own w21 hg22)) 65 (by decide)) (Nat.le_of_ble_eq_true rfl) (Nat.le_trans (Nat.le_of_eq (WF.n (WF.rr (j := 4) (v := some ((h15).1)) w21 (o) (WF.own w21 hg22)) 65 (by decide))) (by decide)) hg23 ?_
  obtain ⟨h24, e25, hp⟩ := bind_some hp
  try dsimp only at hp
  have e25 := Option.some.inj e25
  have w26 : WF h24 := e25 ▸ (WF.nw (t := 20) (n := (hI (hsR (h19) (o) 4 (some ((h15).1))) (61) 6).toNatClampNeg) (f := fun j => if j < (hI (hsR (h19) (o) 4 (some ((h15).1))) (61) 6).toNatClampNeg then hI (hsR (h19) (o) 4 (some ((h15).1))) (65) j else 0) (WF.rr (j := 4) (v := some ((h15).1)) w21 (o) (WF.own w21 hg22)))
  rw [e25]
  by_cases hg27 : hT (h24) (o) = 1
  rotate_left
  · rw [if_neg hg27] at hp; cases hp
  rw [if_pos hg27] at hp
  refine e_putR f24_74 hg27 rfl ?_
  refine e_iconst (v := 0) f24_77 (by decide) ?_
  refine e_istore_n (ls2 := [some (.ref (o)), some (.int (a0)), some (.ref (61)), some (.int (0)), none]) f24_78 (Nat.le_of_ble_eq_true rfl) rfl ?_
  refine e_iconst (v := 0) f24_79 (by decide) ?_
  refine e_istore (ls2 := [some (.ref (o)), some (.int (a0)), some (.ref (61)), some (.int (0)), some (.int (0))]) f24_80 (Nat.le_of_ble_eq_true rfl) rfl ?_
  refine ex_weak (ls := [some (.ref (o)), none, none, some (.int (0)), some (.int (0))]) (le2_ok ⟨Or.inr rfl, Or.inl rfl, Or.inl rfl, Or.inr rfl, Or.inr rfl, trivial⟩) ?_
  exact p24_L82_ok d F o a0 F (hsR (h24) (o) 5 (some ((hsR (h19) (o) 4 (some ((h15).1))).1))) ((WF.rr (j := 5) (v := some ((hsR (h19) (o) 4 (some ((h15).1))).1)) w26 (o) (WF.own w26 hg27))) (hg27) (0) (0) _ hp
set_option maxRecDepth 100000 in
set_option maxHeartbeats 4000000 in
theorem p24_w (F : Nat) (h : HS) (w : WF h) (o : Nat) (a0 : Int32) (ho : hT h o = 1) (r : HS) (hp : p24 F h o a0 = some r) : WF r := by
  unfold p24 at hp
  obtain ⟨h1, e2, hp⟩ := bind_some hp
  try dsimp only at hp
  have e2 := Option.some.inj e2
  have w3 : WF h1 := e2 ▸ (WF.nw (t := 23) (n := (80 : Int32).toNatClampNeg) (f := fun _ => 0) w)
  by_cases hg4 : hT (h1) (o) = 1
  rotate_left
  · rw [if_neg hg4] at hp; cases hp
  rw [if_pos hg4] at hp
  by_cases hg5 : (hI (hsI (hsR (h1) (o) 6 (some ((h).1))) (o) 0 (a0)) (61) 5) < (0 : Int32) ∨ hN (hsI (hsR (h1) (o) 6 (some ((h).1))) (o) 0 (a0)) (62) < (hI (hsI (hsR (h1) (o) 6 (some ((h).1))) (o) 0 (a0)) (61) 5).toNatClampNeg
  · rw [if_pos hg5] at hp; cases hp
  rw [if_neg hg5] at hp
  obtain ⟨h6, e7, hp⟩ := bind_some hp
  try dsimp only at hp
  have e7 := Option.some.inj e7
  have w8 : WF h6 := e7 ▸ (WF.nw (t := 20) (n := (hI (hsI (hsR (h1) (o) 6 (some ((h).1))) (o) 0 (a0)) (61) 5).toNatClampNeg) (f := fun j => if j < (hI (hsI (hsR (h1) (o) 6 (some ((h).1))) (o) 0 (a0)) (61) 5).toNatClampNeg then hI (hsI (hsR (h1) (o) 6 (some ((h).1))) (o) 0 (a0)) (62) j else 0) (WF.rr (j := 6) (v := some ((h).1)) w3 (o) (WF.own w3 hg4)))
  by_cases hg9 : hT (h6) (o) = 1
  rotate_left
  · rw [if_neg hg9] at hp; cases hp
  rw [if_pos hg9] at hp
  by_cases hg10 : (hI (hsR (h6) (o) 3 (some ((hsI (hsR (h1) (o) 6 (some ((h).1))) (o) 0 (a0)).1))) (61) 5) < (0 : Int32) ∨ hN (hsR (h6) (o) 3 (some ((hsI (hsR (h1) (o) 6 (some ((h).1))) (o) 0 (a0)).1))) (63) < (hI (hsR (h6) (o) 3 (some ((hsI (hsR (h1) (o) 6 (some ((h).1))) (o) 0 (a0)).1))) (61) 5).toNatClampNeg
  · rw [if_pos hg10] at hp; cases hp
  rw [if_neg hg10] at hp
  obtain ⟨h11, e12, hp⟩ := bind_some hp
  try dsimp only at hp
  have e12 := Option.some.inj e12
  have w13 : WF h11 := e12 ▸ (WF.nw (t := 20) (n := (hI (hsR (h6) (o) 3 (some ((hsI (hsR (h1) (o) 6 (some ((h).1))) (o) 0 (a0)).1))) (61) 5).toNatClampNeg) (f := fun j => if j < (hI (hsR (h6) (o) 3 (some ((hsI (hsR (h1) (o) 6 (some ((h).1))) (o) 0 (a0)).1))) (61) 5).toNatClampNeg then hI (hsR (h6) (o) 3 (some ((hsI (hsR (h1) (o) 6 (some ((h).1))) (o) 0 (a0)).1))) (63) j else 0) (WF.rr (j := 3) (v := some ((hsI (hsR (h1) (o) 6 (some ((h).1))) (o) 0 (a0)).1)) w8 (o) (WF.own w8 hg9)))
  by_cases hg14 : hT (h11) (o) = 1
  rotate_left
  · rw [if_neg hg14] at hp; cases hp
  rw [if_pos hg14] at hp
  obtain ⟨h15, e16, hp⟩ := bind_some hp
  try dsimp only at hp
  have e16 := Option.some.inj e16
  have w17 : WF h15 := e16 ▸ (WF.rr (j := 2) (v := some ((hsR (h6) (o) 3 (some ((hsI (hsR (h1) (o) 6 (some ((h).1))) (o) 0 (a0)).1))).1)) w13 (o) (WF.own w13 hg14))
  by_cases hg18 : (hI (h15) (61) 5) < (0 : Int32) ∨ hN (h15) (64) < (hI (h15) (61) 5).toNatClampNeg
  · rw [if_pos hg18] at hp; cases hp
  rw [if_neg hg18] at hp
  obtain ⟨h19, e20, hp⟩ := bind_some hp
  try dsimp only at hp
  have e20 := Option.some.inj e20
  have w21 : WF h19 := e20 ▸ (WF.nw (t := 20) (n := (hI (h15) (61) 5).toNatClampNeg) (f := fun j => if j < (hI (h15) (61) 5).toNatClampNeg then hI (h15) (64) j else 0) w17)
  by_cases hg22 : hT (h19) (o) = 1
  rotate_left
  · rw [if_neg hg22] at hp; cases hp
  rw [if_pos hg22] at hp
  by_cases hg23 : (hI (hsR (h19) (o) 4 (some ((h15).1))) (61) 6) < (0 : Int32) ∨ hN (hsR (h19) (o) 4 (some ((h15).1))) (65) < (hI (hsR (h19) (o) 4 (some ((h15).1))) (61) 6).toNatClampNeg
  · rw [if_pos hg23] at hp; cases hp
  rw [if_neg hg23] at hp
  obtain ⟨h24, e25, hp⟩ := bind_some hp
  try dsimp only at hp
  have e25 := Option.some.inj e25
  have w26 : WF h24 := e25 ▸ (WF.nw (t := 20) (n := (hI (hsR (h19) (o) 4 (some ((h15).1))) (61) 6).toNatClampNeg) (f := fun j => if j < (hI (hsR (h19) (o) 4 (some ((h15).1))) (61) 6).toNatClampNeg then hI (hsR (h19) (o) 4 (some ((h15).1))) (65) j else 0) (WF.rr (j := 4) (v := some ((h15).1)) w21 (o) (WF.own w21 hg22)))
  by_cases hg27 : hT (h24) (o) = 1
  rotate_left
  · rw [if_neg hg27] at hp; cases hp
  rw [if_pos hg27] at hp
  exact p24_L82_w F o a0 F (hsR (h24) (o) 5 (some ((hsR (h19) (o) 4 (some ((h15).1))).1))) ((WF.rr (j := 5) (v := some ((hsR (h19) (o) 4 (some ((h15).1))).1)) w26 (o) (WF.own w26 hg27))) (hg27) (0) (0) _ hp
theorem f28_0 : fetch 28 0 = some (.iload_n 0, 0, 0, 0) := rfl
theorem f28_1 : fetch 28 1 = some (.tableswitch 195 10028 10052 #[191, 187, 195, 195, 195, 195, 195, 195, 195, 195, 195, 195, 195, 195, 195, 195, 195, 115, 119, 123, 127, 139, 151, 163, 175], 0, 0, 0) := rfl
theorem f28_116 : fetch 28 116 = some (.lload_n 1, 0, 0, 0) := rfl
theorem f28_117 : fetch 28 117 = some (.lload_n 3, 0, 0, 0) := rfl
theorem f28_118 : fetch 28 118 = some (.ladd, 0, 0, 0) := rfl
theorem f28_119 : fetch 28 119 = some (.lreturn, 0, 0, 0) := rfl
theorem f28_120 : fetch 28 120 = some (.lload_n 1, 0, 0, 0) := rfl
theorem f28_121 : fetch 28 121 = some (.lload_n 3, 0, 0, 0) := rfl
theorem f28_122 : fetch 28 122 = some (.lsub, 0, 0, 0) := rfl
theorem f28_123 : fetch 28 123 = some (.lreturn, 0, 0, 0) := rfl
theorem f28_124 : fetch 28 124 = some (.lload_n 1, 0, 0, 0) := rfl
theorem f28_125 : fetch 28 125 = some (.lload_n 3, 0, 0, 0) := rfl
theorem f28_126 : fetch 28 126 = some (.lmul, 0, 0, 0) := rfl
theorem f28_127 : fetch 28 127 = some (.lreturn, 0, 0, 0) := rfl
theorem f28_128 : fetch 28 128 = some (.lload_n 1, 0, 0, 0) := rfl
theorem f28_129 : fetch 28 129 = some (.lload_n 3, 0, 0, 0) := rfl
theorem f28_130 : fetch 28 130 = some (.lcmp, 0, 0, 0) := rfl
theorem f28_131 : fetch 28 131 = some (.ifCond .ge 7, 138, 0, 0) := rfl
theorem f28_134 : fetch 28 134 = some (.lconst 1, 0, 0, 0) := rfl
theorem f28_135 : fetch 28 135 = some (.goto 4, 139, 0, 0) := rfl
theorem f28_138 : fetch 28 138 = some (.lconst 0, 0, 0, 0) := rfl
theorem f28_139 : fetch 28 139 = some (.lreturn, 0, 0, 0) := rfl
theorem f28_140 : fetch 28 140 = some (.lload_n 1, 0, 0, 0) := rfl
theorem f28_141 : fetch 28 141 = some (.lload_n 3, 0, 0, 0) := rfl
theorem f28_142 : fetch 28 142 = some (.lcmp, 0, 0, 0) := rfl
theorem f28_143 : fetch 28 143 = some (.ifCond .gt 7, 150, 0, 0) := rfl
theorem f28_146 : fetch 28 146 = some (.lconst 1, 0, 0, 0) := rfl
theorem f28_147 : fetch 28 147 = some (.goto 4, 151, 0, 0) := rfl
theorem f28_150 : fetch 28 150 = some (.lconst 0, 0, 0, 0) := rfl
theorem f28_151 : fetch 28 151 = some (.lreturn, 0, 0, 0) := rfl
theorem f28_152 : fetch 28 152 = some (.lload_n 1, 0, 0, 0) := rfl
theorem f28_153 : fetch 28 153 = some (.lload_n 3, 0, 0, 0) := rfl
theorem f28_154 : fetch 28 154 = some (.lcmp, 0, 0, 0) := rfl
theorem f28_155 : fetch 28 155 = some (.ifCond .ne 7, 162, 0, 0) := rfl
theorem f28_158 : fetch 28 158 = some (.lconst 1, 0, 0, 0) := rfl
theorem f28_159 : fetch 28 159 = some (.goto 4, 163, 0, 0) := rfl
theorem f28_162 : fetch 28 162 = some (.lconst 0, 0, 0, 0) := rfl
theorem f28_163 : fetch 28 163 = some (.lreturn, 0, 0, 0) := rfl
theorem f28_164 : fetch 28 164 = some (.lload_n 1, 0, 0, 0) := rfl
theorem f28_165 : fetch 28 165 = some (.lload_n 3, 0, 0, 0) := rfl
theorem f28_166 : fetch 28 166 = some (.lcmp, 0, 0, 0) := rfl
theorem f28_167 : fetch 28 167 = some (.ifCond .lt 7, 174, 0, 0) := rfl
theorem f28_170 : fetch 28 170 = some (.lconst 1, 0, 0, 0) := rfl
theorem f28_171 : fetch 28 171 = some (.goto 4, 175, 0, 0) := rfl
theorem f28_174 : fetch 28 174 = some (.lconst 0, 0, 0, 0) := rfl
theorem f28_175 : fetch 28 175 = some (.lreturn, 0, 0, 0) := rfl
theorem f28_176 : fetch 28 176 = some (.lload_n 1, 0, 0, 0) := rfl
theorem f28_177 : fetch 28 177 = some (.lload_n 3, 0, 0, 0) := rfl
theorem f28_178 : fetch 28 178 = some (.lcmp, 0, 0, 0) := rfl
theorem f28_179 : fetch 28 179 = some (.ifCond .le 7, 186, 0, 0) := rfl
theorem f28_182 : fetch 28 182 = some (.lconst 1, 0, 0, 0) := rfl
theorem f28_183 : fetch 28 183 = some (.goto 4, 187, 0, 0) := rfl
theorem f28_186 : fetch 28 186 = some (.lconst 0, 0, 0, 0) := rfl
theorem f28_187 : fetch 28 187 = some (.lreturn, 0, 0, 0) := rfl
theorem f28_188 : fetch 28 188 = some (.lload_n 1, 0, 0, 0) := rfl
theorem f28_189 : fetch 28 189 = some (.lload_n 3, 0, 0, 0) := rfl
theorem f28_190 : fetch 28 190 = some (.land, 0, 0, 0) := rfl
theorem f28_191 : fetch 28 191 = some (.lreturn, 0, 0, 0) := rfl
theorem f28_192 : fetch 28 192 = some (.lload_n 1, 0, 0, 0) := rfl
theorem f28_193 : fetch 28 193 = some (.lload_n 3, 0, 0, 0) := rfl
theorem f28_194 : fetch 28 194 = some (.lor, 0, 0, 0) := rfl
theorem f28_195 : fetch 28 195 = some (.lreturn, 0, 0, 0) := rfl
theorem f28_196 : fetch 28 196 = some (.lconst 0, 0, 0, 0) := rfl
theorem f28_197 : fetch 28 197 = some (.lreturn, 0, 0, 0) := rfl
set_option maxRecDepth 100000 in
set_option maxHeartbeats 4000000 in
theorem p28_ok (d : Nat) (h : HS) (w : WF h) (a0 : Int32) (a1 : Int64) (a2 : Int64) (r : Int64) (hp : p28 h a0 a1 a2 = some r) : ex (d + 0) 28 (ent 28 [.int (a0), .long (a1), .long (a2)] h) = some (some (.long (r)), h) := by
  rw [show ent 28 [.int (a0), .long (a1), .long (a2)] h = (0, [some (.int (a0)), some (.long (a1)), none, some (.long (a2)), none], [], h) from by  rfl]
  refine ex_weak (ls := [some (.int (a0)), some (.long (a1)), none, some (.long (a2)), none]) (le2_ok ⟨Or.inr rfl, Or.inr rfl, Or.inr rfl, Or.inr rfl, Or.inr rfl, trivial⟩) ?_
  unfold p28 at hp
  refine e_iload_n f28_0 rfl ?_
  by_cases hc1 : (a0) = (10028 : Int32)
  · rw [if_pos hc1] at hp
    refine e_sw (t := 192) f28_1 (by rw [hc1]; decide) (by rw [hc1]; decide) ?_
    refine e_lload_n f28_192 rfl ?_
    refine e_lload_n f28_193 rfl ?_
    refine e_lor f28_194 ?_
    have hp := Option.some.inj hp
    subst hp
    exact e_lreturn f28_195
  rw [if_neg hc1] at hp
  by_cases hc2 : (a0) = (10029 : Int32)
  · rw [if_pos hc2] at hp
    refine e_sw (t := 188) f28_1 (by rw [hc2]; decide) (by rw [hc2]; decide) ?_
    refine e_lload_n f28_188 rfl ?_
    refine e_lload_n f28_189 rfl ?_
    refine e_land f28_190 ?_
    have hp := Option.some.inj hp
    subst hp
    exact e_lreturn f28_191
  rw [if_neg hc2] at hp
  by_cases hc3 : (a0) = (10030 : Int32)
  · rw [if_pos hc3] at hp
    refine e_sw (t := 196) f28_1 (by rw [hc3]; decide) (by rw [hc3]; decide) ?_
    refine e_lconst (v := 0) f28_196 (by decide) ?_
    have hp := Option.some.inj hp
    subst hp
    exact e_lreturn f28_197
  rw [if_neg hc3] at hp
  by_cases hc4 : (a0) = (10031 : Int32)
  · rw [if_pos hc4] at hp
    refine e_sw (t := 196) f28_1 (by rw [hc4]; decide) (by rw [hc4]; decide) ?_
    refine e_lconst (v := 0) f28_196 (by decide) ?_
    have hp := Option.some.inj hp
    subst hp
    exact e_lreturn f28_197
  rw [if_neg hc4] at hp
  by_cases hc5 : (a0) = (10032 : Int32)
  · rw [if_pos hc5] at hp
    refine e_sw (t := 196) f28_1 (by rw [hc5]; decide) (by rw [hc5]; decide) ?_
    refine e_lconst (v := 0) f28_196 (by decide) ?_
    have hp := Option.some.inj hp
    subst hp
    exact e_lreturn f28_197
  rw [if_neg hc5] at hp
  by_cases hc6 : (a0) = (10033 : Int32)
  · rw [if_pos hc6] at hp
    refine e_sw (t := 196) f28_1 (by rw [hc6]; decide) (by rw [hc6]; decide) ?_
    refine e_lconst (v := 0) f28_196 (by decide) ?_
    have hp := Option.some.inj hp
    subst hp
    exact e_lreturn f28_197
  rw [if_neg hc6] at hp
  by_cases hc7 : (a0) = (10034 : Int32)
  · rw [if_pos hc7] at hp
    refine e_sw (t := 196) f28_1 (by rw [hc7]; decide) (by rw [hc7]; decide) ?_
    refine e_lconst (v := 0) f28_196 (by decide) ?_
    have hp := Option.some.inj hp
    subst hp
    exact e_lreturn f28_197
  rw [if_neg hc7] at hp
  by_cases hc8 : (a0) = (10035 : Int32)
  · rw [if_pos hc8] at hp
    refine e_sw (t := 196) f28_1 (by rw [hc8]; decide) (by rw [hc8]; decide) ?_
    refine e_lconst (v := 0) f28_196 (by decide) ?_
    have hp := Option.some.inj hp
    subst hp
    exact e_lreturn f28_197
  rw [if_neg hc8] at hp
  by_cases hc9 : (a0) = (10036 : Int32)
  · rw [if_pos hc9] at hp
    refine e_sw (t := 196) f28_1 (by rw [hc9]; decide) (by rw [hc9]; decide) ?_
    refine e_lconst (v := 0) f28_196 (by decide) ?_
    have hp := Option.some.inj hp
    subst hp
    exact e_lreturn f28_197
  rw [if_neg hc9] at hp
  by_cases hc10 : (a0) = (10037 : Int32)
  · rw [if_pos hc10] at hp
    refine e_sw (t := 196) f28_1 (by rw [hc10]; decide) (by rw [hc10]; decide) ?_
    refine e_lconst (v := 0) f28_196 (by decide) ?_
    have hp := Option.some.inj hp
    subst hp
    exact e_lreturn f28_197
  rw [if_neg hc10] at hp
  by_cases hc11 : (a0) = (10038 : Int32)
  · rw [if_pos hc11] at hp
    refine e_sw (t := 196) f28_1 (by rw [hc11]; decide) (by rw [hc11]; decide) ?_
    refine e_lconst (v := 0) f28_196 (by decide) ?_
    have hp := Option.some.inj hp
    subst hp
    exact e_lreturn f28_197
  rw [if_neg hc11] at hp
  by_cases hc12 : (a0) = (10039 : Int32)
  · rw [if_pos hc12] at hp
    refine e_sw (t := 196) f28_1 (by rw [hc12]; decide) (by rw [hc12]; decide) ?_
    refine e_lconst (v := 0) f28_196 (by decide) ?_
    have hp := Option.some.inj hp
    subst hp
    exact e_lreturn f28_197
  rw [if_neg hc12] at hp
  by_cases hc13 : (a0) = (10040 : Int32)
  · rw [if_pos hc13] at hp
    refine e_sw (t := 196) f28_1 (by rw [hc13]; decide) (by rw [hc13]; decide) ?_
    refine e_lconst (v := 0) f28_196 (by decide) ?_
    have hp := Option.some.inj hp
    subst hp
    exact e_lreturn f28_197
  rw [if_neg hc13] at hp
  by_cases hc14 : (a0) = (10041 : Int32)
  · rw [if_pos hc14] at hp
    refine e_sw (t := 196) f28_1 (by rw [hc14]; decide) (by rw [hc14]; decide) ?_
    refine e_lconst (v := 0) f28_196 (by decide) ?_
    have hp := Option.some.inj hp
    subst hp
    exact e_lreturn f28_197
  rw [if_neg hc14] at hp
  by_cases hc15 : (a0) = (10042 : Int32)
  · rw [if_pos hc15] at hp
    refine e_sw (t := 196) f28_1 (by rw [hc15]; decide) (by rw [hc15]; decide) ?_
    refine e_lconst (v := 0) f28_196 (by decide) ?_
    have hp := Option.some.inj hp
    subst hp
    exact e_lreturn f28_197
  rw [if_neg hc15] at hp
  by_cases hc16 : (a0) = (10043 : Int32)
  · rw [if_pos hc16] at hp
    refine e_sw (t := 196) f28_1 (by rw [hc16]; decide) (by rw [hc16]; decide) ?_
    refine e_lconst (v := 0) f28_196 (by decide) ?_
    have hp := Option.some.inj hp
    subst hp
    exact e_lreturn f28_197
  rw [if_neg hc16] at hp
  by_cases hc17 : (a0) = (10044 : Int32)
  · rw [if_pos hc17] at hp
    refine e_sw (t := 196) f28_1 (by rw [hc17]; decide) (by rw [hc17]; decide) ?_
    refine e_lconst (v := 0) f28_196 (by decide) ?_
    have hp := Option.some.inj hp
    subst hp
    exact e_lreturn f28_197
  rw [if_neg hc17] at hp
  by_cases hc18 : (a0) = (10045 : Int32)
  · rw [if_pos hc18] at hp
    refine e_sw (t := 116) f28_1 (by rw [hc18]; decide) (by rw [hc18]; decide) ?_
    refine e_lload_n f28_116 rfl ?_
    refine e_lload_n f28_117 rfl ?_
    refine e_ladd f28_118 ?_
    have hp := Option.some.inj hp
    subst hp
    exact e_lreturn f28_119
  rw [if_neg hc18] at hp
  by_cases hc19 : (a0) = (10046 : Int32)
  · rw [if_pos hc19] at hp
    refine e_sw (t := 120) f28_1 (by rw [hc19]; decide) (by rw [hc19]; decide) ?_
    refine e_lload_n f28_120 rfl ?_
    refine e_lload_n f28_121 rfl ?_
    refine e_lsub f28_122 ?_
    have hp := Option.some.inj hp
    subst hp
    exact e_lreturn f28_123
  rw [if_neg hc19] at hp
  by_cases hc20 : (a0) = (10047 : Int32)
  · rw [if_pos hc20] at hp
    refine e_sw (t := 124) f28_1 (by rw [hc20]; decide) (by rw [hc20]; decide) ?_
    refine e_lload_n f28_124 rfl ?_
    refine e_lload_n f28_125 rfl ?_
    refine e_lmul f28_126 ?_
    have hp := Option.some.inj hp
    subst hp
    exact e_lreturn f28_127
  rw [if_neg hc20] at hp
  by_cases hc21 : (a0) = (10048 : Int32)
  · rw [if_pos hc21] at hp
    refine e_sw (t := 128) f28_1 (by rw [hc21]; decide) (by rw [hc21]; decide) ?_
    refine e_lload_n f28_128 rfl ?_
    refine e_lload_n f28_129 rfl ?_
    refine e_lcmp f28_130 ?_
    by_cases hc22 : (lg_cmp (a1) (a2)) < (0 : Int32)
    · rw [if_pos hc22] at hp
      refine e_if_ge_f f28_131 hc22 ?_
      refine e_lconst (v := 1) f28_134 (by decide) ?_
      refine e_goto f28_135 ?_
      have hp := Option.some.inj hp
      subst hp
      exact e_lreturn f28_139
    · rw [if_neg hc22] at hp
      refine e_if_ge_t f28_131 hc22 ?_
      refine e_lconst (v := 0) f28_138 (by decide) ?_
      have hp := Option.some.inj hp
      subst hp
      exact e_lreturn f28_139
  rw [if_neg hc21] at hp
  by_cases hc23 : (a0) = (10049 : Int32)
  · rw [if_pos hc23] at hp
    refine e_sw (t := 140) f28_1 (by rw [hc23]; decide) (by rw [hc23]; decide) ?_
    refine e_lload_n f28_140 rfl ?_
    refine e_lload_n f28_141 rfl ?_
    refine e_lcmp f28_142 ?_
    by_cases hc24 : (0 : Int32) < (lg_cmp (a1) (a2))
    · rw [if_pos hc24] at hp
      refine e_if_gt_t f28_143 hc24 ?_
      refine e_lconst (v := 0) f28_150 (by decide) ?_
      have hp := Option.some.inj hp
      subst hp
      exact e_lreturn f28_151
    · rw [if_neg hc24] at hp
      refine e_if_gt_f f28_143 hc24 ?_
      refine e_lconst (v := 1) f28_146 (by decide) ?_
      refine e_goto f28_147 ?_
      have hp := Option.some.inj hp
      subst hp
      exact e_lreturn f28_151
  rw [if_neg hc23] at hp
  by_cases hc25 : (a0) = (10050 : Int32)
  · rw [if_pos hc25] at hp
    refine e_sw (t := 152) f28_1 (by rw [hc25]; decide) (by rw [hc25]; decide) ?_
    refine e_lload_n f28_152 rfl ?_
    refine e_lload_n f28_153 rfl ?_
    refine e_lcmp f28_154 ?_
    by_cases hc26 : (lg_cmp (a1) (a2)) = (0 : Int32)
    · rw [if_pos hc26] at hp
      refine e_if_ne_f f28_155 hc26 ?_
      refine e_lconst (v := 1) f28_158 (by decide) ?_
      refine e_goto f28_159 ?_
      have hp := Option.some.inj hp
      subst hp
      exact e_lreturn f28_163
    · rw [if_neg hc26] at hp
      refine e_if_ne_t f28_155 hc26 ?_
      refine e_lconst (v := 0) f28_162 (by decide) ?_
      have hp := Option.some.inj hp
      subst hp
      exact e_lreturn f28_163
  rw [if_neg hc25] at hp
  by_cases hc27 : (a0) = (10051 : Int32)
  · rw [if_pos hc27] at hp
    refine e_sw (t := 164) f28_1 (by rw [hc27]; decide) (by rw [hc27]; decide) ?_
    refine e_lload_n f28_164 rfl ?_
    refine e_lload_n f28_165 rfl ?_
    refine e_lcmp f28_166 ?_
    by_cases hc28 : (lg_cmp (a1) (a2)) < (0 : Int32)
    · rw [if_pos hc28] at hp
      refine e_if_lt_t f28_167 hc28 ?_
      refine e_lconst (v := 0) f28_174 (by decide) ?_
      have hp := Option.some.inj hp
      subst hp
      exact e_lreturn f28_175
    · rw [if_neg hc28] at hp
      refine e_if_lt_f f28_167 hc28 ?_
      refine e_lconst (v := 1) f28_170 (by decide) ?_
      refine e_goto f28_171 ?_
      have hp := Option.some.inj hp
      subst hp
      exact e_lreturn f28_175
  rw [if_neg hc27] at hp
  by_cases hc29 : (a0) = (10052 : Int32)
  · rw [if_pos hc29] at hp
    refine e_sw (t := 176) f28_1 (by rw [hc29]; decide) (by rw [hc29]; decide) ?_
    refine e_lload_n f28_176 rfl ?_
    refine e_lload_n f28_177 rfl ?_
    refine e_lcmp f28_178 ?_
    by_cases hc30 : (0 : Int32) < (lg_cmp (a1) (a2))
    · rw [if_pos hc30] at hp
      refine e_if_le_f f28_179 hc30 ?_
      refine e_lconst (v := 1) f28_182 (by decide) ?_
      refine e_goto f28_183 ?_
      have hp := Option.some.inj hp
      subst hp
      exact e_lreturn f28_187
    · rw [if_neg hc30] at hp
      refine e_if_le_t f28_179 hc30 ?_
      refine e_lconst (v := 0) f28_186 (by decide) ?_
      have hp := Option.some.inj hp
      subst hp
      exact e_lreturn f28_187
  rw [if_neg hc29] at hp
  have ho31 := sw_out (x := a0) 10028 10052 (fun j h1 h2 => by
    rcases (show j = 10028 ∨ j = 10029 ∨ j = 10030 ∨ j = 10031 ∨ j = 10032 ∨ j = 10033 ∨ j = 10034 ∨ j = 10035 ∨ j = 10036 ∨ j = 10037 ∨ j = 10038 ∨ j = 10039 ∨ j = 10040 ∨ j = 10041 ∨ j = 10042 ∨ j = 10043 ∨ j = 10044 ∨ j = 10045 ∨ j = 10046 ∨ j = 10047 ∨ j = 10048 ∨ j = 10049 ∨ j = 10050 ∨ j = 10051 ∨ j = 10052 by omega) with rfl | rfl | rfl | rfl | rfl | rfl | rfl | rfl | rfl | rfl | rfl | rfl | rfl | rfl | rfl | rfl | rfl | rfl | rfl | rfl | rfl | rfl | rfl | rfl | rfl
    · exact i32_ne hc1 (by decide)
    · exact i32_ne hc2 (by decide)
    · exact i32_ne hc3 (by decide)
    · exact i32_ne hc4 (by decide)
    · exact i32_ne hc5 (by decide)
    · exact i32_ne hc6 (by decide)
    · exact i32_ne hc7 (by decide)
    · exact i32_ne hc8 (by decide)
    · exact i32_ne hc9 (by decide)
    · exact i32_ne hc10 (by decide)
    · exact i32_ne hc11 (by decide)
    · exact i32_ne hc12 (by decide)
    · exact i32_ne hc13 (by decide)
    · exact i32_ne hc14 (by decide)
    · exact i32_ne hc15 (by decide)
    · exact i32_ne hc16 (by decide)
    · exact i32_ne hc17 (by decide)
    · exact i32_ne hc18 (by decide)
    · exact i32_ne hc19 (by decide)
    · exact i32_ne hc20 (by decide)
    · exact i32_ne hc21 (by decide)
    · exact i32_ne hc23 (by decide)
    · exact i32_ne hc25 (by decide)
    · exact i32_ne hc27 (by decide)
    · exact i32_ne hc29 (by decide))
  refine e_sw (t := 196) f28_1 ⟨by rw [swTo, if_pos ho31]; decide, by decide⟩ (by rw [swTo, if_pos ho31]; decide) ?_
  refine e_lconst (v := 0) f28_196 (by decide) ?_
  have hp := Option.some.inj hp
  subst hp
  exact e_lreturn f28_197
theorem f27_0 : fetch 27 0 = some (.iconst 0, 0, 0, 0) := rfl
theorem f27_1 : fetch 27 1 = some (.istore_n 3, 0, 0, 0) := rfl
theorem f27_2 : fetch 27 2 = some (.iload_n 1, 0, 0, 0) := rfl
theorem f27_3 : fetch 27 3 = some (.ifCond .ne 7, 10, 0, 0) := rfl
theorem f27_6 : fetch 27 6 = some (.iconst 0, 0, 0, 0) := rfl
theorem f27_7 : fetch 27 7 = some (.goto 11, 18, 0, 0) := rfl
theorem f27_10 : fetch 27 10 = some (.aload_n 0, 0, 0, 0) := rfl
theorem f27_11 : fetch 27 11 = some (.getfield 42, 1, 4, 2) := rfl
theorem f27_14 : fetch 27 14 = some (.iload_n 1, 0, 0, 0) := rfl
theorem f27_15 : fetch 27 15 = some (.iconst 1, 0, 0, 0) := rfl
theorem f27_16 : fetch 27 16 = some (.isub, 0, 0, 0) := rfl
theorem f27_17 : fetch 27 17 = some (.iaload, 0, 0, 0) := rfl
theorem f27_18 : fetch 27 18 = some (.istore 4, 0, 0, 0) := rfl
theorem f27_20 : fetch 27 20 = some (.iload 4, 0, 0, 0) := rfl
theorem f27_22 : fetch 27 22 = some (.aload_n 0, 0, 0, 0) := rfl
theorem f27_23 : fetch 27 23 = some (.getfield 42, 1, 4, 2) := rfl
theorem f27_26 : fetch 27 26 = some (.iload_n 1, 0, 0, 0) := rfl
theorem f27_27 : fetch 27 27 = some (.iaload, 0, 0, 0) := rfl
theorem f27_28 : fetch 27 28 = some (.if_icmp .ge 137, 165, 0, 0) := rfl
theorem f27_31 : fetch 27 31 = some (.aload_n 0, 0, 0, 0) := rfl
theorem f27_32 : fetch 27 32 = some (.getfield 49, 1, 5, 2) := rfl
theorem f27_35 : fetch 27 35 = some (.iload 4, 0, 0, 0) := rfl
theorem f27_37 : fetch 27 37 = some (.iaload, 0, 0, 0) := rfl
theorem f27_38 : fetch 27 38 = some (.istore 5, 0, 0, 0) := rfl
theorem f27_40 : fetch 27 40 = some (.iload 5, 0, 0, 0) := rfl
theorem f27_42 : fetch 27 42 = some (.sipush 10021, 0, 0, 0) := rfl
theorem f27_45 : fetch 27 45 = some (.if_icmp .ge 46, 91, 0, 0) := rfl
theorem f27_48 : fetch 27 48 = some (.iload_n 3, 0, 0, 0) := rfl
theorem f27_49 : fetch 27 49 = some (.aload_n 0, 0, 0, 0) := rfl
theorem f27_50 : fetch 27 50 = some (.getfield 9, 1, 6, 2) := rfl
theorem f27_53 : fetch 27 53 = some (.arraylength, 0, 0, 0) := rfl
theorem f27_54 : fetch 27 54 = some (.if_icmp .ge 105, 159, 0, 0) := rfl
theorem f27_57 : fetch 27 57 = some (.aload_n 0, 0, 0, 0) := rfl
theorem f27_58 : fetch 27 58 = some (.getfield 9, 1, 6, 2) := rfl
theorem f27_61 : fetch 27 61 = some (.iload_n 3, 0, 0, 0) := rfl
theorem f27_62 : fetch 27 62 = some (.iload 5, 0, 0, 0) := rfl
theorem f27_64 : fetch 27 64 = some (.sipush 10010, 0, 0, 0) := rfl
theorem f27_67 : fetch 27 67 = some (.if_icmp .ge 9, 76, 0, 0) := rfl
theorem f27_70 : fetch 27 70 = some (.iload 5, 0, 0, 0) := rfl
theorem f27_72 : fetch 27 72 = some (.i2l, 0, 0, 0) := rfl
theorem f27_73 : fetch 27 73 = some (.goto 11, 84, 0, 0) := rfl
theorem f27_76 : fetch 27 76 = some (.aload_n 2, 0, 0, 0) := rfl
theorem f27_77 : fetch 27 77 = some (.iload 5, 0, 0, 0) := rfl
theorem f27_79 : fetch 27 79 = some (.sipush 10010, 0, 0, 0) := rfl
theorem f27_82 : fetch 27 82 = some (.isub, 0, 0, 0) := rfl
theorem f27_83 : fetch 27 83 = some (.laload, 0, 0, 0) := rfl
theorem f27_84 : fetch 27 84 = some (.lastore, 0, 0, 0) := rfl
theorem f27_85 : fetch 27 85 = some (.iinc 3 1, 0, 0, 0) := rfl
theorem f27_88 : fetch 27 88 = some (.goto 71, 159, 0, 0) := rfl
theorem f27_91 : fetch 27 91 = some (.iload 5, 0, 0, 0) := rfl
theorem f27_93 : fetch 27 93 = some (.sipush 10030, 0, 0, 0) := rfl
theorem f27_96 : fetch 27 96 = some (.if_icmp .ne 28, 124, 0, 0) := rfl
theorem f27_99 : fetch 27 99 = some (.iload_n 3, 0, 0, 0) := rfl
theorem f27_100 : fetch 27 100 = some (.ifCond .le 59, 159, 0, 0) := rfl
theorem f27_103 : fetch 27 103 = some (.aload_n 0, 0, 0, 0) := rfl
theorem f27_104 : fetch 27 104 = some (.getfield 9, 1, 6, 2) := rfl
theorem f27_107 : fetch 27 107 = some (.iload_n 3, 0, 0, 0) := rfl
theorem f27_108 : fetch 27 108 = some (.iconst 1, 0, 0, 0) := rfl
theorem f27_109 : fetch 27 109 = some (.isub, 0, 0, 0) := rfl
theorem f27_110 : fetch 27 110 = some (.lconst 1, 0, 0, 0) := rfl
theorem f27_111 : fetch 27 111 = some (.aload_n 0, 0, 0, 0) := rfl
theorem f27_112 : fetch 27 112 = some (.getfield 9, 1, 6, 2) := rfl
theorem f27_115 : fetch 27 115 = some (.iload_n 3, 0, 0, 0) := rfl
theorem f27_116 : fetch 27 116 = some (.iconst 1, 0, 0, 0) := rfl
theorem f27_117 : fetch 27 117 = some (.isub, 0, 0, 0) := rfl
theorem f27_118 : fetch 27 118 = some (.laload, 0, 0, 0) := rfl
theorem f27_119 : fetch 27 119 = some (.lsub, 0, 0, 0) := rfl
theorem f27_120 : fetch 27 120 = some (.lastore, 0, 0, 0) := rfl
theorem f27_121 : fetch 27 121 = some (.goto 38, 159, 0, 0) := rfl
theorem f27_124 : fetch 27 124 = some (.iload_n 3, 0, 0, 0) := rfl
theorem f27_125 : fetch 27 125 = some (.iconst 1, 0, 0, 0) := rfl
theorem f27_126 : fetch 27 126 = some (.if_icmp .le 33, 159, 0, 0) := rfl
theorem f27_129 : fetch 27 129 = some (.iinc 3 (-1), 0, 0, 0) := rfl
theorem f27_132 : fetch 27 132 = some (.aload_n 0, 0, 0, 0) := rfl
theorem f27_133 : fetch 27 133 = some (.getfield 9, 1, 6, 2) := rfl
theorem f27_136 : fetch 27 136 = some (.iload_n 3, 0, 0, 0) := rfl
theorem f27_137 : fetch 27 137 = some (.iconst 1, 0, 0, 0) := rfl
theorem f27_138 : fetch 27 138 = some (.isub, 0, 0, 0) := rfl
theorem f27_139 : fetch 27 139 = some (.iload 5, 0, 0, 0) := rfl
theorem f27_141 : fetch 27 141 = some (.aload_n 0, 0, 0, 0) := rfl
theorem f27_142 : fetch 27 142 = some (.getfield 9, 1, 6, 2) := rfl
theorem f27_145 : fetch 27 145 = some (.iload_n 3, 0, 0, 0) := rfl
theorem f27_146 : fetch 27 146 = some (.iconst 1, 0, 0, 0) := rfl
theorem f27_147 : fetch 27 147 = some (.isub, 0, 0, 0) := rfl
theorem f27_148 : fetch 27 148 = some (.laload, 0, 0, 0) := rfl
theorem f27_149 : fetch 27 149 = some (.aload_n 0, 0, 0, 0) := rfl
theorem f27_150 : fetch 27 150 = some (.getfield 9, 1, 6, 2) := rfl
theorem f27_153 : fetch 27 153 = some (.iload_n 3, 0, 0, 0) := rfl
theorem f27_154 : fetch 27 154 = some (.laload, 0, 0, 0) := rfl
theorem f27_155 : fetch 27 155 = some (.invokestatic 58, 28, 3, 1) := rfl
theorem f27_158 : fetch 27 158 = some (.lastore, 0, 0, 0) := rfl
theorem f27_159 : fetch 27 159 = some (.iinc 4 1, 0, 0, 0) := rfl
theorem f27_162 : fetch 27 162 = some (.goto (-142), 20, 0, 0) := rfl
theorem f27_165 : fetch 27 165 = some (.aload_n 0, 0, 0, 0) := rfl
theorem f27_166 : fetch 27 166 = some (.getfield 9, 1, 6, 2) := rfl
theorem f27_169 : fetch 27 169 = some (.iconst 0, 0, 0, 0) := rfl
theorem f27_170 : fetch 27 170 = some (.laload, 0, 0, 0) := rfl
theorem f27_171 : fetch 27 171 = some (.lreturn, 0, 0, 0) := rfl
set_option maxRecDepth 100000 in
set_option maxHeartbeats 4000000 in
theorem p27_j159_ok (d : Nat) (F : Nat) (o : Nat) (a0 : Int32) (a1 : Option Nat) (K20 : HS → Int32 → Int32 → Option (Int64 × HS)) (hK20 : ∀ (h : HS) (w : WF h) (ho : hT h o = 1) (u3 : Int32) (u4 : Int32) (r : Int64 × HS), K20 h u3 u4 = some r → ex (d + 1) 27 (20, [some (.ref (o)), some (.int (a0)), some (va_rf (a1)), some (.int (u3)), some (.int (u4)), none], [], h) = some (some (.long (r.1)), r.2)) (h : HS) (w : WF h) (ho : hT h o = 1) (v3 : Int32) (v4 : Int32) (r : Int64 × HS) (hp : p27_j159 F o a0 a1 K20 h v3 v4 = some r) : ex (d + 1) 27 (159, [some (.ref (o)), some (.int (a0)), some (va_rf (a1)), some (.int (v3)), some (.int (v4)), none], [], h) = some (some (.long (r.1)), r.2) := by
  unfold p27_j159 at hp
  refine e_iinc (ls2 := [some (.ref (o)), some (.int (a0)), some (va_rf (a1)), some (.int (v3)), some (.int ((v4) + 1)), none]) f27_159 (by decide) rfl rfl ?_
  refine e_goto f27_162 ?_
  refine ex_weak (ls := [some (.ref (o)), some (.int (a0)), some (va_rf (a1)), some (.int (v3)), some (.int ((v4) + 1)), none]) (le2_ok ⟨Or.inr rfl, Or.inr rfl, Or.inr rfl, Or.inr rfl, Or.inr rfl, Or.inl rfl, trivial⟩) ?_
  exact hK20 (h) (w) (ho) (v3) ((v4) + 1) _ hp
set_option maxRecDepth 100000 in
set_option maxHeartbeats 4000000 in
theorem p27_j159_w (F : Nat) (o : Nat) (a0 : Int32) (a1 : Option Nat) (K20 : HS → Int32 → Int32 → Option (Int64 × HS)) (hK20 : ∀ (h : HS) (w : WF h) (ho : hT h o = 1) (u3 : Int32) (u4 : Int32) (r : Int64 × HS), K20 h u3 u4 = some r → WF r.2) (h : HS) (w : WF h) (ho : hT h o = 1) (v3 : Int32) (v4 : Int32) (r : Int64 × HS) (hp : p27_j159 F o a0 a1 K20 h v3 v4 = some r) : WF r.2 := by
  unfold p27_j159 at hp
  exact hK20 (h) (w) (ho) (v3) ((v4) + 1) _ hp
set_option maxRecDepth 100000 in
set_option maxHeartbeats 4000000 in
theorem p27_j84_ok (d : Nat) (F : Nat) (o : Nat) (a0 : Int32) (a1 : Option Nat) (K20 : HS → Int32 → Int32 → Option (Int64 × HS)) (hK20 : ∀ (h : HS) (w : WF h) (ho : hT h o = 1) (u3 : Int32) (u4 : Int32) (r : Int64 × HS), K20 h u3 u4 = some r → ex (d + 1) 27 (20, [some (.ref (o)), some (.int (a0)), some (va_rf (a1)), some (.int (u3)), some (.int (u4)), none], [], h) = some (some (.long (r.1)), r.2)) (h : HS) (w : WF h) (ho : hT h o = 1) (v3 : Int32) (v4 : Int32) (s0 : Int64) (s1 : Int32) (s2 : Option Nat) (r : Int64 × HS) (hp : p27_j84 F o a0 a1 K20 h v3 v4 s0 s1 s2 = some r) : ex (d + 1) 27 (84, [some (.ref (o)), some (.int (a0)), some (va_rf (a1)), some (.int (v3)), some (.int (v4)), none], [.long (s0), .int (s1), va_rf (s2)], h) = some (some (.long (r.1)), r.2) := by
  unfold p27_j84 at hp
  obtain ⟨o51, ho52, hp⟩ := bind_some hp
  try dsimp only at hp
  rw [ho52]
  by_cases hg53 : hT (h) (o51) = 23
  rotate_left
  · rw [if_neg hg53] at hp; cases hp
  rw [if_pos hg53] at hp
  by_cases hg54 : (s1) < (0 : Int32) ∨ hN (h) (o51) ≤ (s1).toNatClampNeg
  · rw [if_pos hg54] at hp; cases hp
  rw [if_neg hg54] at hp
  refine e_lastore f27_84 hg53 rfl hg54 ?_
  refine e_iinc (ls2 := [some (.ref (o)), some (.int (a0)), some (va_rf (a1)), some (.int ((v3) + 1)), some (.int (v4)), none]) f27_85 (by decide) rfl (by generalize a1 = z; cases z <;> rfl) ?_
  refine e_goto f27_88 ?_
  refine ex_weak (ls := [some (.ref (o)), some (.int (a0)), some (va_rf (a1)), some (.int ((v3) + 1)), some (.int (v4)), none]) (le2_ok ⟨Or.inr rfl, Or.inr rfl, Or.inr rfl, Or.inr rfl, Or.inr rfl, Or.inl rfl, trivial⟩) ?_
  exact p27_j159_ok d F o a0 a1 (K20) (hK20) (hsL (h) (o51) (s1).toNatClampNeg (s0)) (w) (ho) ((v3) + 1) (v4) _ hp
set_option maxRecDepth 100000 in
set_option maxHeartbeats 4000000 in
theorem p27_j84_w (F : Nat) (o : Nat) (a0 : Int32) (a1 : Option Nat) (K20 : HS → Int32 → Int32 → Option (Int64 × HS)) (hK20 : ∀ (h : HS) (w : WF h) (ho : hT h o = 1) (u3 : Int32) (u4 : Int32) (r : Int64 × HS), K20 h u3 u4 = some r → WF r.2) (h : HS) (w : WF h) (ho : hT h o = 1) (v3 : Int32) (v4 : Int32) (s0 : Int64) (s1 : Int32) (s2 : Option Nat) (r : Int64 × HS) (hp : p27_j84 F o a0 a1 K20 h v3 v4 s0 s1 s2 = some r) : WF r.2 := by
  unfold p27_j84 at hp
  obtain ⟨o51, ho52, hp⟩ := bind_some hp
  try dsimp only at hp
  by_cases hg53 : hT (h) (o51) = 23
  rotate_left
  · rw [if_neg hg53] at hp; cases hp
  rw [if_pos hg53] at hp
  by_cases hg54 : (s1) < (0 : Int32) ∨ hN (h) (o51) ≤ (s1).toNatClampNeg
  · rw [if_pos hg54] at hp; cases hp
  rw [if_neg hg54] at hp
  exact p27_j159_w F o a0 a1 (K20) (hK20) (hsL (h) (o51) (s1).toNatClampNeg (s0)) (w) (ho) ((v3) + 1) (v4) _ hp
set_option maxRecDepth 100000 in
set_option maxHeartbeats 4000000 in
theorem p27_L20_ok (d : Nat) (F : Nat) (o : Nat) (a0 : Int32) (a1 : Option Nat) : ∀ (n : Nat) (h : HS) (w : WF h) (ho : hT h o = 1) (v3 : Int32) (v4 : Int32) (r : Int64 × HS), p27_L20 F o a0 a1 n h v3 v4 = some r → ex (d + 1) 27 (20, [some (.ref (o)), some (.int (a0)), some (va_rf (a1)), some (.int (v3)), some (.int (v4)), none], [], h) = some (some (.long (r.1)), r.2) := by
  intro n
  induction n with
  | zero => intro h w ho v3 v4 r hp; cases hp
  | succ n ih =>
    intro h w ho v3 v4 r hp
    unfold p27_L20 at hp
    refine e_iload f27_20 rfl ?_
    refine e_aload_n f27_22 rfl ?_
    refine e_getQ f27_23 ho rfl ?_
    refine e_iload_n f27_26 rfl ?_
    obtain ⟨o6, ho7, hp⟩ := bind_some hp
    try dsimp only at hp
    rw [ho7]
    by_cases hg8 : hT (h) (o6) = 20
    rotate_left
    · rw [if_neg hg8] at hp; cases hp
    rw [if_pos hg8] at hp
    by_cases hg9 : (a0) < (0 : Int32) ∨ hN (h) (o6) ≤ (a0).toNatClampNeg
    · rw [if_pos hg9] at hp; cases hp
    rw [if_neg hg9] at hp
    refine e_iaload f27_27 (Or.inl hg8) rfl hg9 ?_
    by_cases hc10 : (v4) < ((hI (h) (o6) (a0).toNatClampNeg) : Int32)
    · rw [if_pos hc10] at hp
      refine e_icmp_ge_f f27_28 hc10 ?_
      refine e_aload_n f27_31 rfl ?_
      refine e_getQ f27_32 ho rfl ?_
      refine e_iload f27_35 rfl ?_
      obtain ⟨o11, ho12, hp⟩ := bind_some hp
      try dsimp only at hp
      rw [ho12]
      by_cases hg13 : hT (h) (o11) = 20
      rotate_left
      · rw [if_neg hg13] at hp; cases hp
      rw [if_pos hg13] at hp
      by_cases hg14 : (v4) < (0 : Int32) ∨ hN (h) (o11) ≤ (v4).toNatClampNeg
      · rw [if_pos hg14] at hp; cases hp
      rw [if_neg hg14] at hp
      refine e_iaload f27_37 (Or.inl hg13) rfl hg14 ?_
      refine e_istore (ls2 := [some (.ref (o)), some (.int (a0)), some (va_rf (a1)), some (.int (v3)), some (.int (v4)), some (.int (hI (h) (o11) (v4).toNatClampNeg))]) f27_38 (Nat.le_of_ble_eq_true rfl) rfl ?_
      refine e_iload f27_40 rfl ?_
      refine e_sipush (v := 10021) f27_42 (by decide) ?_
      by_cases hc15 : (hI (h) (o11) (v4).toNatClampNeg) < ((10021) : Int32)
      · rw [if_pos hc15] at hp
        refine e_icmp_ge_f f27_45 hc15 ?_
        refine e_iload_n f27_48 rfl ?_
        refine e_aload_n f27_49 rfl ?_
        refine e_getQ f27_50 ho rfl ?_
        obtain ⟨o16, ho17, hp⟩ := bind_some hp
        try dsimp only at hp
        rw [ho17]
        by_cases hg18 : hT (h) (o16) = 23
        rotate_left
        · rw [if_neg hg18] at hp; cases hp
        rw [if_pos hg18] at hp
        refine e_arraylength (v := Int32.ofNat (hN (h) (o16))) f27_53 (Or.inl ⟨by rw [hg18]; decide, by rw [hg18]; decide⟩) rfl ?_
        by_cases hc19 : (v3) < ((Int32.ofNat (hN (h) (o16))) : Int32)
        · rw [if_pos hc19] at hp
          refine e_icmp_ge_f f27_54 hc19 ?_
          refine e_aload_n f27_57 rfl ?_
          refine e_getQ f27_58 ho rfl ?_
          refine e_iload_n f27_61 rfl ?_
          refine e_iload f27_62 rfl ?_
          refine e_sipush (v := 10010) f27_64 (by decide) ?_
          by_cases hc20 : (hI (h) (o11) (v4).toNatClampNeg) < ((10010) : Int32)
          · rw [if_pos hc20] at hp
            refine e_icmp_ge_f f27_67 hc20 ?_
            refine e_iload f27_70 rfl ?_
            refine e_i2l f27_72 ?_
            refine e_goto f27_73 ?_
            refine ex_weak (ls := [some (.ref (o)), some (.int (a0)), some (va_rf (a1)), some (.int (v3)), some (.int (v4)), none]) (le2_ok ⟨Or.inr rfl, Or.inr rfl, Or.inr rfl, Or.inr rfl, Or.inr rfl, Or.inl rfl, trivial⟩) ?_
            exact p27_j84_ok d F o a0 a1 ((p27_L20 F o a0 a1 n)) (ih) (h) (w) (ho) (v3) (v4) ((hI (h) (o11) (v4).toNatClampNeg).toInt64) (v3) (hR (h) (o) 6) _ hp
          · rw [if_neg hc20] at hp
            refine e_icmp_ge_t f27_67 hc20 ?_
            refine e_qload_n f27_76 rfl ?_
            refine e_iload f27_77 rfl ?_
            refine e_sipush (v := 10010) f27_79 (by decide) ?_
            refine e_isub f27_82 ?_
            obtain ⟨o21, ho22, hp⟩ := bind_some hp
            try dsimp only at hp
            rw [ho22]
            by_cases hg23 : hT (h) (o21) = 23
            rotate_left
            · rw [if_neg hg23] at hp; cases hp
            rw [if_pos hg23] at hp
            by_cases hg24 : ((hI (h) (o11) (v4).toNatClampNeg) - (10010)) < (0 : Int32) ∨ hN (h) (o21) ≤ ((hI (h) (o11) (v4).toNatClampNeg) - (10010)).toNatClampNeg
            · rw [if_pos hg24] at hp; cases hp
            rw [if_neg hg24] at hp
            refine e_laload f27_83 hg23 rfl hg24 ?_
            refine ex_weak (ls := [some (.ref (o)), some (.int (a0)), some (va_rf (a1)), some (.int (v3)), some (.int (v4)), none]) (le2_ok ⟨Or.inr rfl, Or.inr rfl, Or.inr (congrArg (fun z => some (va_rf z)) ho22), Or.inr rfl, Or.inr rfl, Or.inl rfl, trivial⟩) ?_
            exact p27_j84_ok d F o a0 a1 ((p27_L20 F o a0 a1 n)) (ih) (h) (w) (ho) (v3) (v4) (hL (h) (o21) ((hI (h) (o11) (v4).toNatClampNeg) - (10010)).toNatClampNeg) (v3) (hR (h) (o) 6) _ hp
        · rw [if_neg hc19] at hp
          refine e_icmp_ge_t f27_54 hc19 ?_
          refine ex_weak (ls := [some (.ref (o)), some (.int (a0)), some (va_rf (a1)), some (.int (v3)), some (.int (v4)), none]) (le2_ok ⟨Or.inr rfl, Or.inr rfl, Or.inr rfl, Or.inr rfl, Or.inr rfl, Or.inl rfl, trivial⟩) ?_
          exact p27_j159_ok d F o a0 a1 ((p27_L20 F o a0 a1 n)) (ih) (h) (w) (ho) (v3) (v4) _ hp
      · rw [if_neg hc15] at hp
        refine e_icmp_ge_t f27_45 hc15 ?_
        refine e_iload f27_91 rfl ?_
        refine e_sipush (v := 10030) f27_93 (by decide) ?_
        by_cases hc25 : (hI (h) (o11) (v4).toNatClampNeg) = ((10030) : Int32)
        · rw [if_pos hc25] at hp
          refine e_icmp_ne_f f27_96 hc25 ?_
          refine e_iload_n f27_99 rfl ?_
          by_cases hc26 : (0 : Int32) < (v3)
          · rw [if_pos hc26] at hp
            refine e_if_le_f f27_100 hc26 ?_
            refine e_aload_n f27_103 rfl ?_
            refine e_getQ f27_104 ho rfl ?_
            refine e_iload_n f27_107 rfl ?_
            refine e_iconst (v := 1) f27_108 (by decide) ?_
            refine e_isub f27_109 ?_
            refine e_lconst (v := 1) f27_110 (by decide) ?_
            refine e_aload_n f27_111 rfl ?_
            refine e_getQ f27_112 ho rfl ?_
            refine e_iload_n f27_115 rfl ?_
            refine e_iconst (v := 1) f27_116 (by decide) ?_
            refine e_isub f27_117 ?_
            obtain ⟨o27, ho28, hp⟩ := bind_some hp
            try dsimp only at hp
            rw [ho28]
            by_cases hg29 : hT (h) (o27) = 23
            rotate_left
            · rw [if_neg hg29] at hp; cases hp
            rw [if_pos hg29] at hp
            by_cases hg30 : ((v3) - (1)) < (0 : Int32) ∨ hN (h) (o27) ≤ ((v3) - (1)).toNatClampNeg
            · rw [if_pos hg30] at hp; cases hp
            rw [if_neg hg30] at hp
            refine e_laload f27_118 hg29 rfl hg30 ?_
            refine e_lsub f27_119 ?_
            by_cases hg31 : ((v3) - (1)) < (0 : Int32) ∨ hN (h) (o27) ≤ ((v3) - (1)).toNatClampNeg
            · rw [if_pos hg31] at hp; cases hp
            rw [if_neg hg31] at hp
            refine e_lastore f27_120 hg29 rfl hg31 ?_
            obtain ⟨h32, e33, hp⟩ := bind_some hp
            try dsimp only at hp
            have e33 := Option.some.inj e33
            have w34 : WF h32 := e33 ▸ w
            rw [e33]
            refine e_goto f27_121 ?_
            refine ex_weak (ls := [some (.ref (o)), some (.int (a0)), some (va_rf (a1)), some (.int (v3)), some (.int (v4)), none]) (le2_ok ⟨Or.inr rfl, Or.inr rfl, Or.inr rfl, Or.inr rfl, Or.inr rfl, Or.inl rfl, trivial⟩) ?_
            exact p27_j159_ok d F o a0 a1 ((p27_L20 F o a0 a1 n)) (ih) (h32) (w34) ((by rw [← e33]; exact ho)) (v3) (v4) _ hp
          · rw [if_neg hc26] at hp
            refine e_if_le_t f27_100 hc26 ?_
            refine ex_weak (ls := [some (.ref (o)), some (.int (a0)), some (va_rf (a1)), some (.int (v3)), some (.int (v4)), none]) (le2_ok ⟨Or.inr rfl, Or.inr rfl, Or.inr rfl, Or.inr rfl, Or.inr rfl, Or.inl rfl, trivial⟩) ?_
            exact p27_j159_ok d F o a0 a1 ((p27_L20 F o a0 a1 n)) (ih) (h) (w) (ho) (v3) (v4) _ hp
        · rw [if_neg hc25] at hp
          refine e_icmp_ne_t f27_96 hc25 ?_
          refine e_iload_n f27_124 rfl ?_
          refine e_iconst (v := 1) f27_125 (by decide) ?_
          by_cases hc35 : (1) < ((v3) : Int32)
          · rw [if_pos hc35] at hp
            refine e_icmp_le_f f27_126 hc35 ?_
            refine e_iinc (ls2 := [some (.ref (o)), some (.int (a0)), some (va_rf (a1)), some (.int ((v3) + (-1))), some (.int (v4)), some (.int (hI (h) (o11) (v4).toNatClampNeg))]) f27_129 (by decide) rfl (by generalize a1 = z; cases z <;> rfl) ?_
            refine e_aload_n f27_132 rfl ?_
            refine e_getQ f27_133 ho rfl ?_
            refine e_iload_n f27_136 rfl ?_
            refine e_iconst (v := 1) f27_137 (by decide) ?_
            refine e_isub f27_138 ?_
            refine e_iload f27_139 rfl ?_
            refine e_aload_n f27_141 rfl ?_
            refine e_getQ f27_142 ho rfl ?_
            refine e_iload_n f27_145 rfl ?_
            refine e_iconst (v := 1) f27_146 (by decide) ?_
            refine e_isub f27_147 ?_
            obtain ⟨o36, ho37, hp⟩ := bind_some hp
            try dsimp only at hp
            rw [ho37]
            by_cases hg38 : hT (h) (o36) = 23
            rotate_left
            · rw [if_neg hg38] at hp; cases hp
            rw [if_pos hg38] at hp
            by_cases hg39 : (((v3) + (-1)) - (1)) < (0 : Int32) ∨ hN (h) (o36) ≤ (((v3) + (-1)) - (1)).toNatClampNeg
            · rw [if_pos hg39] at hp; cases hp
            rw [if_neg hg39] at hp
            refine e_laload f27_148 hg38 rfl hg39 ?_
            refine e_aload_n f27_149 rfl ?_
            refine e_getQ f27_150 ho rfl ?_
            refine e_iload_n f27_153 rfl ?_
            obtain ⟨o40, ho41, hp⟩ := bind_some hp
            try dsimp only at hp
            rw [ho41]
            by_cases hg42 : hT (h) (o40) = 23
            rotate_left
            · rw [if_neg hg42] at hp; cases hp
            rw [if_pos hg42] at hp
            by_cases hg43 : ((v3) + (-1)) < (0 : Int32) ∨ hN (h) (o40) ≤ ((v3) + (-1)).toNatClampNeg
            · rw [if_pos hg43] at hp; cases hp
            rw [if_neg hg43] at hp
            refine e_laload f27_154 hg42 rfl hg43 ?_
            obtain ⟨r44, hr45, hp⟩ := bind_some hp
            try dsimp only at hp
            refine e_callS (st := [.int (((v3) + (-1)) - (1)), .ref (o36)]) (as := [.int (hI (h) (o11) (v4).toNatClampNeg), .long (hL (h) (o36) (((v3) + (-1)) - (1)).toNatClampNeg), .long (hL (h) (o40) ((v3) + (-1)).toNatClampNeg)]) f27_155 (by decide) rfl rfl (Nat.le_of_ble_eq_true rfl) (Nat.le_of_ble_eq_true rfl) (p28_ok d (h) w (hI (h) (o11) (v4).toNatClampNeg) (hL (h) (o36) (((v3) + (-1)) - (1)).toNatClampNeg) (hL (h) (o40) ((v3) + (-1)).toNatClampNeg) r44 hr45) ?_
            show ex _ 27 (158, [some (.ref (o)), some (.int (a0)), some (va_rf (a1)), some (.int ((v3) + (-1))), some (.int (v4)), some (.int (hI (h) (o11) (v4).toNatClampNeg))], [.long (r44), .int (((v3) + (-1)) - (1)), .ref (o36)], h) = _
            by_cases hg46 : (((v3) + (-1)) - (1)) < (0 : Int32) ∨ hN (h) (o36) ≤ (((v3) + (-1)) - (1)).toNatClampNeg
            · rw [if_pos hg46] at hp; cases hp
            rw [if_neg hg46] at hp
            refine e_lastore f27_158 hg38 rfl hg46 ?_
            refine ex_weak (ls := [some (.ref (o)), some (.int (a0)), some (va_rf (a1)), some (.int ((v3) + (-1))), some (.int (v4)), none]) (le2_ok ⟨Or.inr rfl, Or.inr rfl, Or.inr rfl, Or.inr rfl, Or.inr rfl, Or.inl rfl, trivial⟩) ?_
            exact p27_j159_ok d F o a0 a1 ((p27_L20 F o a0 a1 n)) (ih) (hsL (h) (o36) (((v3) + (-1)) - (1)).toNatClampNeg (r44)) (w) (ho) ((v3) + (-1)) (v4) _ hp
          · rw [if_neg hc35] at hp
            refine e_icmp_le_t f27_126 hc35 ?_
            refine ex_weak (ls := [some (.ref (o)), some (.int (a0)), some (va_rf (a1)), some (.int (v3)), some (.int (v4)), none]) (le2_ok ⟨Or.inr rfl, Or.inr rfl, Or.inr rfl, Or.inr rfl, Or.inr rfl, Or.inl rfl, trivial⟩) ?_
            exact p27_j159_ok d F o a0 a1 ((p27_L20 F o a0 a1 n)) (ih) (h) (w) (ho) (v3) (v4) _ hp
    · rw [if_neg hc10] at hp
      refine e_icmp_ge_t f27_28 hc10 ?_
      refine e_aload_n f27_165 rfl ?_
      refine e_getQ f27_166 ho rfl ?_
      refine e_iconst (v := 0) f27_169 (by decide) ?_
      obtain ⟨o47, ho48, hp⟩ := bind_some hp
      try dsimp only at hp
      rw [ho48]
      by_cases hg49 : hT (h) (o47) = 23
      rotate_left
      · rw [if_neg hg49] at hp; cases hp
      rw [if_pos hg49] at hp
      by_cases hg50 : (0) < (0 : Int32) ∨ hN (h) (o47) ≤ (0 : Int32).toNatClampNeg
      · rw [if_pos hg50] at hp; cases hp
      rw [if_neg hg50] at hp
      refine e_laload f27_170 hg49 rfl hg50 ?_
      have hp := Option.some.inj hp
      subst hp
      exact e_lreturn f27_171
set_option maxRecDepth 100000 in
set_option maxHeartbeats 4000000 in
theorem p27_L20_w (F : Nat) (o : Nat) (a0 : Int32) (a1 : Option Nat) : ∀ (n : Nat) (h : HS) (w : WF h) (ho : hT h o = 1) (v3 : Int32) (v4 : Int32) (r : Int64 × HS), p27_L20 F o a0 a1 n h v3 v4 = some r → WF r.2 := by
  intro n
  induction n with
  | zero => intro h w ho v3 v4 r hp; cases hp
  | succ n ih =>
    intro h w ho v3 v4 r hp
    unfold p27_L20 at hp
    obtain ⟨o6, ho7, hp⟩ := bind_some hp
    try dsimp only at hp
    by_cases hg8 : hT (h) (o6) = 20
    rotate_left
    · rw [if_neg hg8] at hp; cases hp
    rw [if_pos hg8] at hp
    by_cases hg9 : (a0) < (0 : Int32) ∨ hN (h) (o6) ≤ (a0).toNatClampNeg
    · rw [if_pos hg9] at hp; cases hp
    rw [if_neg hg9] at hp
    by_cases hc10 : (v4) < ((hI (h) (o6) (a0).toNatClampNeg) : Int32)
    · rw [if_pos hc10] at hp
      obtain ⟨o11, ho12, hp⟩ := bind_some hp
      try dsimp only at hp
      by_cases hg13 : hT (h) (o11) = 20
      rotate_left
      · rw [if_neg hg13] at hp; cases hp
      rw [if_pos hg13] at hp
      by_cases hg14 : (v4) < (0 : Int32) ∨ hN (h) (o11) ≤ (v4).toNatClampNeg
      · rw [if_pos hg14] at hp; cases hp
      rw [if_neg hg14] at hp
      by_cases hc15 : (hI (h) (o11) (v4).toNatClampNeg) < ((10021) : Int32)
      · rw [if_pos hc15] at hp
        obtain ⟨o16, ho17, hp⟩ := bind_some hp
        try dsimp only at hp
        by_cases hg18 : hT (h) (o16) = 23
        rotate_left
        · rw [if_neg hg18] at hp; cases hp
        rw [if_pos hg18] at hp
        by_cases hc19 : (v3) < ((Int32.ofNat (hN (h) (o16))) : Int32)
        · rw [if_pos hc19] at hp
          by_cases hc20 : (hI (h) (o11) (v4).toNatClampNeg) < ((10010) : Int32)
          · rw [if_pos hc20] at hp
            exact p27_j84_w F o a0 a1 ((p27_L20 F o a0 a1 n)) (ih) (h) (w) (ho) (v3) (v4) ((hI (h) (o11) (v4).toNatClampNeg).toInt64) (v3) (hR (h) (o) 6) _ hp
          · rw [if_neg hc20] at hp
            obtain ⟨o21, ho22, hp⟩ := bind_some hp
            try dsimp only at hp
            by_cases hg23 : hT (h) (o21) = 23
            rotate_left
            · rw [if_neg hg23] at hp; cases hp
            rw [if_pos hg23] at hp
            by_cases hg24 : ((hI (h) (o11) (v4).toNatClampNeg) - (10010)) < (0 : Int32) ∨ hN (h) (o21) ≤ ((hI (h) (o11) (v4).toNatClampNeg) - (10010)).toNatClampNeg
            · rw [if_pos hg24] at hp; cases hp
            rw [if_neg hg24] at hp
            exact p27_j84_w F o a0 a1 ((p27_L20 F o a0 a1 n)) (ih) (h) (w) (ho) (v3) (v4) (hL (h) (o21) ((hI (h) (o11) (v4).toNatClampNeg) - (10010)).toNatClampNeg) (v3) (hR (h) (o) 6) _ hp
        · rw [if_neg hc19] at hp
          exact p27_j159_w F o a0 a1 ((p27_L20 F o a0 a1 n)) (ih) (h) (w) (ho) (v3) (v4) _ hp
      · rw [if_neg hc15] at hp
        by_cases hc25 : (hI (h) (o11) (v4).toNatClampNeg) = ((10030) : Int32)
        · rw [if_pos hc25] at hp
          by_cases hc26 : (0 : Int32) < (v3)
          · rw [if_pos hc26] at hp
            obtain ⟨o27, ho28, hp⟩ := bind_some hp
            try dsimp only at hp
            by_cases hg29 : hT (h) (o27) = 23
            rotate_left
            · rw [if_neg hg29] at hp; cases hp
            rw [if_pos hg29] at hp
            by_cases hg30 : ((v3) - (1)) < (0 : Int32) ∨ hN (h) (o27) ≤ ((v3) - (1)).toNatClampNeg
            · rw [if_pos hg30] at hp; cases hp
            rw [if_neg hg30] at hp
            by_cases hg31 : ((v3) - (1)) < (0 : Int32) ∨ hN (h) (o27) ≤ ((v3) - (1)).toNatClampNeg
            · rw [if_pos hg31] at hp; cases hp
            rw [if_neg hg31] at hp
            obtain ⟨h32, e33, hp⟩ := bind_some hp
            try dsimp only at hp
            have e33 := Option.some.inj e33
            have w34 : WF h32 := e33 ▸ w
            exact p27_j159_w F o a0 a1 ((p27_L20 F o a0 a1 n)) (ih) (h32) (w34) ((by rw [← e33]; exact ho)) (v3) (v4) _ hp
          · rw [if_neg hc26] at hp
            exact p27_j159_w F o a0 a1 ((p27_L20 F o a0 a1 n)) (ih) (h) (w) (ho) (v3) (v4) _ hp
        · rw [if_neg hc25] at hp
          by_cases hc35 : (1) < ((v3) : Int32)
          · rw [if_pos hc35] at hp
            obtain ⟨o36, ho37, hp⟩ := bind_some hp
            try dsimp only at hp
            by_cases hg38 : hT (h) (o36) = 23
            rotate_left
            · rw [if_neg hg38] at hp; cases hp
            rw [if_pos hg38] at hp
            by_cases hg39 : (((v3) + (-1)) - (1)) < (0 : Int32) ∨ hN (h) (o36) ≤ (((v3) + (-1)) - (1)).toNatClampNeg
            · rw [if_pos hg39] at hp; cases hp
            rw [if_neg hg39] at hp
            obtain ⟨o40, ho41, hp⟩ := bind_some hp
            try dsimp only at hp
            by_cases hg42 : hT (h) (o40) = 23
            rotate_left
            · rw [if_neg hg42] at hp; cases hp
            rw [if_pos hg42] at hp
            by_cases hg43 : ((v3) + (-1)) < (0 : Int32) ∨ hN (h) (o40) ≤ ((v3) + (-1)).toNatClampNeg
            · rw [if_pos hg43] at hp; cases hp
            rw [if_neg hg43] at hp
            obtain ⟨r44, hr45, hp⟩ := bind_some hp
            try dsimp only at hp
            by_cases hg46 : (((v3) + (-1)) - (1)) < (0 : Int32) ∨ hN (h) (o36) ≤ (((v3) + (-1)) - (1)).toNatClampNeg
            · rw [if_pos hg46] at hp; cases hp
            rw [if_neg hg46] at hp
            exact p27_j159_w F o a0 a1 ((p27_L20 F o a0 a1 n)) (ih) (hsL (h) (o36) (((v3) + (-1)) - (1)).toNatClampNeg (r44)) (w) (ho) ((v3) + (-1)) (v4) _ hp
          · rw [if_neg hc35] at hp
            exact p27_j159_w F o a0 a1 ((p27_L20 F o a0 a1 n)) (ih) (h) (w) (ho) (v3) (v4) _ hp
    · rw [if_neg hc10] at hp
      obtain ⟨o47, ho48, hp⟩ := bind_some hp
      try dsimp only at hp
      by_cases hg49 : hT (h) (o47) = 23
      rotate_left
      · rw [if_neg hg49] at hp; cases hp
      rw [if_pos hg49] at hp
      by_cases hg50 : (0) < (0 : Int32) ∨ hN (h) (o47) ≤ (0 : Int32).toNatClampNeg
      · rw [if_pos hg50] at hp; cases hp
      rw [if_neg hg50] at hp
      have hp := Option.some.inj hp
      subst hp
      exact (w)
set_option maxRecDepth 100000 in
set_option maxHeartbeats 4000000 in
theorem p27_j18_ok (d : Nat) (F : Nat) (o : Nat) (a0 : Int32) (a1 : Option Nat) (h : HS) (w : WF h) (ho : hT h o = 1) (v3 : Int32) (s0 : Int32) (r : Int64 × HS) (hp : p27_j18 F o a0 a1 h v3 s0 = some r) : ex (d + 1) 27 (18, [some (.ref (o)), some (.int (a0)), some (va_rf (a1)), some (.int (v3)), none, none], [.int (s0)], h) = some (some (.long (r.1)), r.2) := by
  unfold p27_j18 at hp
  refine e_istore (ls2 := [some (.ref (o)), some (.int (a0)), some (va_rf (a1)), some (.int (v3)), some (.int (s0)), none]) f27_18 (Nat.le_of_ble_eq_true rfl) rfl ?_
  refine ex_weak (ls := [some (.ref (o)), some (.int (a0)), some (va_rf (a1)), some (.int (v3)), some (.int (s0)), none]) (le2_ok ⟨Or.inr rfl, Or.inr rfl, Or.inr rfl, Or.inr rfl, Or.inr rfl, Or.inl rfl, trivial⟩) ?_
  exact p27_L20_ok d F o a0 a1 F (h) (w) (ho) (v3) (s0) _ hp
set_option maxRecDepth 100000 in
set_option maxHeartbeats 4000000 in
theorem p27_j18_w (F : Nat) (o : Nat) (a0 : Int32) (a1 : Option Nat) (h : HS) (w : WF h) (ho : hT h o = 1) (v3 : Int32) (s0 : Int32) (r : Int64 × HS) (hp : p27_j18 F o a0 a1 h v3 s0 = some r) : WF r.2 := by
  unfold p27_j18 at hp
  exact p27_L20_w F o a0 a1 F (h) (w) (ho) (v3) (s0) _ hp
set_option maxRecDepth 100000 in
set_option maxHeartbeats 4000000 in
theorem p27_ok (d : Nat) (F : Nat) (h : HS) (w : WF h) (o : Nat) (a0 : Int32) (a1 : Option Nat) (ho : hT h o = 1) (r : Int64 × HS) (hp : p27 F h o a0 a1 = some r) : ex (d + 1) 27 (ent 27 [.ref (o), .int (a0), va_rf (a1)] h) = some (some (.long (r.1)), r.2) := by
  rw [show ent 27 [.ref (o), .int (a0), va_rf (a1)] h = (0, [some (.ref (o)), some (.int (a0)), some (va_rf (a1)), none, none, none], [], h) from by cases a1 <;> rfl]
  refine ex_weak (ls := [some (.ref (o)), some (.int (a0)), some (va_rf (a1)), none, none, none]) (le2_ok ⟨Or.inr rfl, Or.inr rfl, Or.inr rfl, Or.inr rfl, Or.inr rfl, Or.inr rfl, trivial⟩) ?_
  unfold p27 at hp
  refine e_iconst (v := 0) f27_0 (by decide) ?_
  refine e_istore_n (ls2 := [some (.ref (o)), some (.int (a0)), some (va_rf (a1)), some (.int (0)), none, none]) f27_1 (Nat.le_of_ble_eq_true rfl) (by generalize a1 = z; cases z <;> rfl) ?_
  refine e_iload_n f27_2 rfl ?_
  by_cases hc1 : (a0) = (0 : Int32)
  · rw [if_pos hc1] at hp
    refine e_if_ne_f f27_3 hc1 ?_
    refine e_iconst (v := 0) f27_6 (by decide) ?_
    refine e_goto f27_7 ?_
    refine ex_weak (ls := [some (.ref (o)), some (.int (a0)), some (va_rf (a1)), some (.int (0)), none, none]) (le2_ok ⟨Or.inr rfl, Or.inr rfl, Or.inr rfl, Or.inr rfl, Or.inl rfl, Or.inl rfl, trivial⟩) ?_
    exact p27_j18_ok d F o a0 a1 (h) (w) (ho) (0) (0) _ hp
  · rw [if_neg hc1] at hp
    refine e_if_ne_t f27_3 hc1 ?_
    refine e_aload_n f27_10 rfl ?_
    refine e_getQ f27_11 ho rfl ?_
    refine e_iload_n f27_14 rfl ?_
    refine e_iconst (v := 1) f27_15 (by decide) ?_
    refine e_isub f27_16 ?_
    obtain ⟨o2, ho3, hp⟩ := bind_some hp
    try dsimp only at hp
    rw [ho3]
    by_cases hg4 : hT (h) (o2) = 20
    rotate_left
    · rw [if_neg hg4] at hp; cases hp
    rw [if_pos hg4] at hp
    by_cases hg5 : ((a0) - (1)) < (0 : Int32) ∨ hN (h) (o2) ≤ ((a0) - (1)).toNatClampNeg
    · rw [if_pos hg5] at hp; cases hp
    rw [if_neg hg5] at hp
    refine e_iaload f27_17 (Or.inl hg4) rfl hg5 ?_
    refine ex_weak (ls := [some (.ref (o)), some (.int (a0)), some (va_rf (a1)), some (.int (0)), none, none]) (le2_ok ⟨Or.inr rfl, Or.inr rfl, Or.inr rfl, Or.inr rfl, Or.inl rfl, Or.inl rfl, trivial⟩) ?_
    exact p27_j18_ok d F o a0 a1 (h) (w) (ho) (0) (hI (h) (o2) ((a0) - (1)).toNatClampNeg) _ hp
set_option maxRecDepth 100000 in
set_option maxHeartbeats 4000000 in
theorem p27_w (F : Nat) (h : HS) (w : WF h) (o : Nat) (a0 : Int32) (a1 : Option Nat) (ho : hT h o = 1) (r : Int64 × HS) (hp : p27 F h o a0 a1 = some r) : WF r.2 := by
  unfold p27 at hp
  by_cases hc1 : (a0) = (0 : Int32)
  · rw [if_pos hc1] at hp
    exact p27_j18_w F o a0 a1 (h) (w) (ho) (0) (0) _ hp
  · rw [if_neg hc1] at hp
    obtain ⟨o2, ho3, hp⟩ := bind_some hp
    try dsimp only at hp
    by_cases hg4 : hT (h) (o2) = 20
    rotate_left
    · rw [if_neg hg4] at hp; cases hp
    rw [if_pos hg4] at hp
    by_cases hg5 : ((a0) - (1)) < (0 : Int32) ∨ hN (h) (o2) ≤ ((a0) - (1)).toNatClampNeg
    · rw [if_pos hg5] at hp; cases hp
    rw [if_neg hg5] at hp
    exact p27_j18_w F o a0 a1 (h) (w) (ho) (0) (hI (h) (o2) ((a0) - (1)).toNatClampNeg) _ hp
theorem f25_0 : fetch 25 0 = some (.iconst 0, 0, 0, 0) := rfl
theorem f25_1 : fetch 25 1 = some (.istore_n 3, 0, 0, 0) := rfl
theorem f25_2 : fetch 25 2 = some (.iload_n 3, 0, 0, 0) := rfl
theorem f25_3 : fetch 25 3 = some (.aload_n 0, 0, 0, 0) := rfl
theorem f25_4 : fetch 25 4 = some (.getfield 34, 1, 3, 2) := rfl
theorem f25_7 : fetch 25 7 = some (.arraylength, 0, 0, 0) := rfl
theorem f25_8 : fetch 25 8 = some (.if_icmp .ge 32, 40, 0, 0) := rfl
theorem f25_11 : fetch 25 11 = some (.aload_n 0, 0, 0, 0) := rfl
theorem f25_12 : fetch 25 12 = some (.getfield 34, 1, 3, 2) := rfl
theorem f25_15 : fetch 25 15 = some (.iload_n 3, 0, 0, 0) := rfl
theorem f25_16 : fetch 25 16 = some (.iaload, 0, 0, 0) := rfl
theorem f25_17 : fetch 25 17 = some (.iload_n 1, 0, 0, 0) := rfl
theorem f25_18 : fetch 25 18 = some (.if_icmp .ne 16, 34, 0, 0) := rfl
theorem f25_21 : fetch 25 21 = some (.aload_n 0, 0, 0, 0) := rfl
theorem f25_22 : fetch 25 22 = some (.iload_n 3, 0, 0, 0) := rfl
theorem f25_23 : fetch 25 23 = some (.aload_n 2, 0, 0, 0) := rfl
theorem f25_24 : fetch 25 24 = some (.invokevirtual 54, 27, 2, 0) := rfl
theorem f25_27 : fetch 25 27 = some (.lconst 0, 0, 0, 0) := rfl
theorem f25_28 : fetch 25 28 = some (.lcmp, 0, 0, 0) := rfl
theorem f25_29 : fetch 25 29 = some (.ifCond .eq 5, 34, 0, 0) := rfl
theorem f25_32 : fetch 25 32 = some (.iload_n 3, 0, 0, 0) := rfl
theorem f25_33 : fetch 25 33 = some (.ireturn, 0, 0, 0) := rfl
theorem f25_34 : fetch 25 34 = some (.iinc 3 1, 0, 0, 0) := rfl
theorem f25_37 : fetch 25 37 = some (.goto (-35), 2, 0, 0) := rfl
theorem f25_40 : fetch 25 40 = some (.iconst (-1), 0, 0, 0) := rfl
theorem f25_41 : fetch 25 41 = some (.ireturn, 0, 0, 0) := rfl
set_option maxRecDepth 100000 in
set_option maxHeartbeats 4000000 in
theorem p25_j34_ok (d : Nat) (F : Nat) (o : Nat) (a0 : Int32) (a1 : Option Nat) (K2 : HS → Int32 → Option (Int32 × HS)) (hK2 : ∀ (h : HS) (w : WF h) (ho : hT h o = 1) (u3 : Int32) (r : Int32 × HS), K2 h u3 = some r → ex (d + 2) 25 (2, [some (.ref (o)), some (.int (a0)), some (va_rf (a1)), some (.int (u3))], [], h) = some (some (.int (r.1)), r.2)) (h : HS) (w : WF h) (v3 : Int32) (r : Int32 × HS) (hp : p25_j34 F o a0 a1 K2 h v3 = some r) : ex (d + 2) 25 (34, [some (.ref (o)), some (.int (a0)), some (va_rf (a1)), some (.int (v3))], [], h) = some (some (.int (r.1)), r.2) := by
  unfold p25_j34 at hp
  refine e_iinc (ls2 := [some (.ref (o)), some (.int (a0)), some (va_rf (a1)), some (.int ((v3) + 1))]) f25_34 (by decide) rfl (by generalize a1 = z; cases z <;> rfl) ?_
  refine e_goto f25_37 ?_
  by_cases hg13 : hT (h) (o) = 1
  rotate_left
  · rw [if_neg hg13] at hp; cases hp
  rw [if_pos hg13] at hp
  refine ex_weak (ls := [some (.ref (o)), some (.int (a0)), some (va_rf (a1)), some (.int ((v3) + 1))]) (le2_ok ⟨Or.inr rfl, Or.inr rfl, Or.inr rfl, Or.inr rfl, trivial⟩) ?_
  exact hK2 (h) (w) (hg13) ((v3) + 1) _ hp
set_option maxRecDepth 100000 in
set_option maxHeartbeats 4000000 in
theorem p25_j34_w (F : Nat) (o : Nat) (a0 : Int32) (a1 : Option Nat) (K2 : HS → Int32 → Option (Int32 × HS)) (hK2 : ∀ (h : HS) (w : WF h) (ho : hT h o = 1) (u3 : Int32) (r : Int32 × HS), K2 h u3 = some r → WF r.2) (h : HS) (w : WF h) (v3 : Int32) (r : Int32 × HS) (hp : p25_j34 F o a0 a1 K2 h v3 = some r) : WF r.2 := by
  unfold p25_j34 at hp
  by_cases hg13 : hT (h) (o) = 1
  rotate_left
  · rw [if_neg hg13] at hp; cases hp
  rw [if_pos hg13] at hp
  exact hK2 (h) (w) (hg13) ((v3) + 1) _ hp
set_option maxRecDepth 100000 in
set_option maxHeartbeats 4000000 in
theorem p25_L2_ok (d : Nat) (F : Nat) (o : Nat) (a0 : Int32) (a1 : Option Nat) : ∀ (n : Nat) (h : HS) (w : WF h) (ho : hT h o = 1) (v3 : Int32) (r : Int32 × HS), p25_L2 F o a0 a1 n h v3 = some r → ex (d + 2) 25 (2, [some (.ref (o)), some (.int (a0)), some (va_rf (a1)), some (.int (v3))], [], h) = some (some (.int (r.1)), r.2) := by
  intro n
  induction n with
  | zero => intro h w ho v3 r hp; cases hp
  | succ n ih =>
    intro h w ho v3 r hp
    unfold p25_L2 at hp
    refine e_iload_n f25_2 rfl ?_
    refine e_aload_n f25_3 rfl ?_
    refine e_getQ f25_4 ho rfl ?_
    obtain ⟨o1, ho2, hp⟩ := bind_some hp
    try dsimp only at hp
    rw [ho2]
    by_cases hg3 : hT (h) (o1) = 20
    rotate_left
    · rw [if_neg hg3] at hp; cases hp
    rw [if_pos hg3] at hp
    refine e_arraylength (v := Int32.ofNat (hN (h) (o1))) f25_7 (Or.inl ⟨by rw [hg3]; decide, by rw [hg3]; decide⟩) rfl ?_
    by_cases hc4 : (v3) < ((Int32.ofNat (hN (h) (o1))) : Int32)
    · rw [if_pos hc4] at hp
      refine e_icmp_ge_f f25_8 hc4 ?_
      refine e_aload_n f25_11 rfl ?_
      refine e_getQ f25_12 ho rfl ?_
      refine e_iload_n f25_15 rfl ?_
      obtain ⟨o5, ho6, hp⟩ := bind_some hp
      try dsimp only at hp
      rw [ho6]
      by_cases hg7 : hT (h) (o5) = 20
      rotate_left
      · rw [if_neg hg7] at hp; cases hp
      rw [if_pos hg7] at hp
      by_cases hg8 : (v3) < (0 : Int32) ∨ hN (h) (o5) ≤ (v3).toNatClampNeg
      · rw [if_pos hg8] at hp; cases hp
      rw [if_neg hg8] at hp
      refine e_iaload f25_16 (Or.inl hg7) rfl hg8 ?_
      refine e_iload_n f25_17 rfl ?_
      by_cases hc9 : (hI (h) (o5) (v3).toNatClampNeg) = ((a0) : Int32)
      · rw [if_pos hc9] at hp
        refine e_icmp_ne_f f25_18 hc9 ?_
        refine e_aload_n f25_21 rfl ?_
        refine e_iload_n f25_22 rfl ?_
        refine e_qload_n f25_23 rfl ?_
        obtain ⟨r10, hr11, hp⟩ := bind_some hp
        try dsimp only at hp
        refine e_callV (st := []) (o := o) (as := [.int (v3), va_rf (a1)]) f25_24 (by decide) rfl rfl (Nat.le_of_ble_eq_true rfl) ho (by cases (a1) <;> exact Nat.le_of_ble_eq_true rfl) (p27_ok d F (h) w (o) (v3) (a1) ho r10 hr11) ?_
        show ex _ 25 (27, [some (.ref (o)), some (.int (a0)), some (va_rf (a1)), some (.int (v3))], [.long (r10.1)], r10.2) = _
        refine e_lconst (v := 0) f25_27 (by decide) ?_
        refine e_lcmp f25_28 ?_
        by_cases hc12 : (lg_cmp (r10.1) ((0 : Int64))) = (0 : Int32)
        · rw [if_pos hc12] at hp
          refine e_if_eq_t f25_29 hc12 ?_
          refine ex_weak (ls := [some (.ref (o)), some (.int (a0)), some (va_rf (a1)), some (.int (v3))]) (le2_ok ⟨Or.inr rfl, Or.inr rfl, Or.inr rfl, Or.inr rfl, trivial⟩) ?_
          exact p25_j34_ok d F o a0 a1 ((p25_L2 F o a0 a1 n)) (ih) (r10.2) ((p27_w F (h) w (o) (v3) (a1) ho  r10 hr11)) (v3) _ hp
        · rw [if_neg hc12] at hp
          refine e_if_eq_f f25_29 hc12 ?_
          refine e_iload_n f25_32 rfl ?_
          have hp := Option.some.inj hp
          subst hp
          exact e_ireturn f25_33 (Or.inl rfl)
      · rw [if_neg hc9] at hp
        refine e_icmp_ne_t f25_18 hc9 ?_
        refine ex_weak (ls := [some (.ref (o)), some (.int (a0)), some (va_rf (a1)), some (.int (v3))]) (le2_ok ⟨Or.inr rfl, Or.inr rfl, Or.inr rfl, Or.inr rfl, trivial⟩) ?_
        exact p25_j34_ok d F o a0 a1 ((p25_L2 F o a0 a1 n)) (ih) (h) (w) (v3) _ hp
    · rw [if_neg hc4] at hp
      refine e_icmp_ge_t f25_8 hc4 ?_
      refine e_iconst (v := -1) f25_40 (by decide) ?_
      have hp := Option.some.inj hp
      subst hp
      exact e_ireturn f25_41 (Or.inl rfl)
set_option maxRecDepth 100000 in
set_option maxHeartbeats 4000000 in
theorem p25_L2_w (F : Nat) (o : Nat) (a0 : Int32) (a1 : Option Nat) : ∀ (n : Nat) (h : HS) (w : WF h) (ho : hT h o = 1) (v3 : Int32) (r : Int32 × HS), p25_L2 F o a0 a1 n h v3 = some r → WF r.2 := by
  intro n
  induction n with
  | zero => intro h w ho v3 r hp; cases hp
  | succ n ih =>
    intro h w ho v3 r hp
    unfold p25_L2 at hp
    obtain ⟨o1, ho2, hp⟩ := bind_some hp
    try dsimp only at hp
    by_cases hg3 : hT (h) (o1) = 20
    rotate_left
    · rw [if_neg hg3] at hp; cases hp
    rw [if_pos hg3] at hp
    by_cases hc4 : (v3) < ((Int32.ofNat (hN (h) (o1))) : Int32)
    · rw [if_pos hc4] at hp
      obtain ⟨o5, ho6, hp⟩ := bind_some hp
      try dsimp only at hp
      by_cases hg7 : hT (h) (o5) = 20
      rotate_left
      · rw [if_neg hg7] at hp; cases hp
      rw [if_pos hg7] at hp
      by_cases hg8 : (v3) < (0 : Int32) ∨ hN (h) (o5) ≤ (v3).toNatClampNeg
      · rw [if_pos hg8] at hp; cases hp
      rw [if_neg hg8] at hp
      by_cases hc9 : (hI (h) (o5) (v3).toNatClampNeg) = ((a0) : Int32)
      · rw [if_pos hc9] at hp
        obtain ⟨r10, hr11, hp⟩ := bind_some hp
        try dsimp only at hp
        by_cases hc12 : (lg_cmp (r10.1) ((0 : Int64))) = (0 : Int32)
        · rw [if_pos hc12] at hp
          exact p25_j34_w F o a0 a1 ((p25_L2 F o a0 a1 n)) (ih) (r10.2) ((p27_w F (h) w (o) (v3) (a1) ho  r10 hr11)) (v3) _ hp
        · rw [if_neg hc12] at hp
          have hp := Option.some.inj hp
          subst hp
          exact ((p27_w F (h) w (o) (v3) (a1) ho  r10 hr11))
      · rw [if_neg hc9] at hp
        exact p25_j34_w F o a0 a1 ((p25_L2 F o a0 a1 n)) (ih) (h) (w) (v3) _ hp
    · rw [if_neg hc4] at hp
      have hp := Option.some.inj hp
      subst hp
      exact (w)
set_option maxRecDepth 100000 in
set_option maxHeartbeats 4000000 in
theorem p25_ok (d : Nat) (F : Nat) (h : HS) (w : WF h) (o : Nat) (a0 : Int32) (a1 : Option Nat) (ho : hT h o = 1) (r : Int32 × HS) (hp : p25 F h o a0 a1 = some r) : ex (d + 2) 25 (ent 25 [.ref (o), .int (a0), va_rf (a1)] h) = some (some (.int (r.1)), r.2) := by
  rw [show ent 25 [.ref (o), .int (a0), va_rf (a1)] h = (0, [some (.ref (o)), some (.int (a0)), some (va_rf (a1)), none], [], h) from by cases a1 <;> rfl]
  refine ex_weak (ls := [some (.ref (o)), some (.int (a0)), some (va_rf (a1)), none]) (le2_ok ⟨Or.inr rfl, Or.inr rfl, Or.inr rfl, Or.inr rfl, trivial⟩) ?_
  unfold p25 at hp
  refine e_iconst (v := 0) f25_0 (by decide) ?_
  refine e_istore_n (ls2 := [some (.ref (o)), some (.int (a0)), some (va_rf (a1)), some (.int (0))]) f25_1 (Nat.le_of_ble_eq_true rfl) (by generalize a1 = z; cases z <;> rfl) ?_
  refine ex_weak (ls := [some (.ref (o)), some (.int (a0)), some (va_rf (a1)), some (.int (0))]) (le2_ok ⟨Or.inr rfl, Or.inr rfl, Or.inr rfl, Or.inr rfl, trivial⟩) ?_
  exact p25_L2_ok d F o a0 a1 F (h) (w) (ho) (0) _ hp
set_option maxRecDepth 100000 in
set_option maxHeartbeats 4000000 in
theorem p25_w (F : Nat) (h : HS) (w : WF h) (o : Nat) (a0 : Int32) (a1 : Option Nat) (ho : hT h o = 1) (r : Int32 × HS) (hp : p25 F h o a0 a1 = some r) : WF r.2 := by
  unfold p25 at hp
  exact p25_L2_w F o a0 a1 F (h) (w) (ho) (0) _ hp
