theorem f61_0 : fetch 61 0 = some (.aload_n 0, 0, 0, 0) := rfl
theorem f61_1 : fetch 61 1 = some (.getfield 28, 4, 6, 2) := rfl
theorem f61_4 : fetch 61 4 = some (.iload_n 1, 0, 0, 0) := rfl
theorem f61_5 : fetch 61 5 = some (.iload_n 2, 0, 0, 0) := rfl
theorem f61_6 : fetch 61 6 = some (.iastore, 0, 0, 0) := rfl
theorem f61_7 : fetch 61 7 = some (.aload_n 0, 0, 0, 0) := rfl
theorem f61_8 : fetch 61 8 = some (.getfield 31, 4, 7, 2) := rfl
theorem f61_11 : fetch 61 11 = some (.iload_n 1, 0, 0, 0) := rfl
theorem f61_12 : fetch 61 12 = some (.iconst (-1), 0, 0, 0) := rfl
theorem f61_13 : fetch 61 13 = some (.iastore, 0, 0, 0) := rfl
theorem f61_14 : fetch 61 14 = some (.return_, 0, 0, 0) := rfl
set_option maxRecDepth 100000 in
set_option maxHeartbeats 4000000 in
theorem p61_ok (d : Nat) (h : HS) (w : WF h) (a0 : Int32) (a1 : Int32) (r : HS) (hp : p61 h a0 a1 = some r) : ex (d + 0) 61 (ent 61 [.ref (68), .int (a0), .int (a1)] h) = some (none, r) := by
  rw [show ent 61 [.ref (68), .int (a0), .int (a1)] h = (0, [some (.ref (68)), some (.int (a0)), some (.int (a1))], [], h) from by  rfl]
  refine ex_weak (ls := [some (.ref (68)), some (.int (a0)), some (.int (a1))]) (le2_ok ⟨Or.inr rfl, Or.inr rfl, Or.inr rfl, trivial⟩) ?_
  unfold p61 at hp
  refine e_aload_n f61_0 rfl ?_
  refine e_getR f61_1 (WF.t w 68 (by decide)) rfl (WF.r (q := 74) w 68 6 (by decide)) ?_
  refine e_iload_n f61_4 rfl ?_
  refine e_iload_n f61_5 rfl ?_
  by_cases hg1 : (a0) < (0 : Int32) ∨ 60 ≤ (a0).toNatClampNeg
  · rw [if_pos hg1] at hp; cases hp
  rw [if_neg hg1] at hp
  refine e_iastore f61_6 (WF.t w 74 (by decide)) (WF.n w 74 (by decide)) hg1 ?_
  refine e_aload_n f61_7 rfl ?_
  refine e_getR f61_8 (WF.t w 68 (by decide)) rfl (WF.r (q := 75) w 68 7 (by decide)) ?_
  refine e_iload_n f61_11 rfl ?_
  refine e_iconst (v := -1) f61_12 (by decide) ?_
  by_cases hg2 : (a0) < (0 : Int32) ∨ 60 ≤ (a0).toNatClampNeg
  · rw [if_pos hg2] at hp; cases hp
  rw [if_neg hg2] at hp
  refine e_iastore f61_13 (WF.t w 75 (by decide)) (WF.n w 75 (by decide)) hg2 ?_
  have hp := Option.some.inj hp
  subst hp
  exact e_return f61_14
set_option maxRecDepth 100000 in
set_option maxHeartbeats 4000000 in
theorem p61_w (h : HS) (w : WF h) (a0 : Int32) (a1 : Int32) (r : HS) (hp : p61 h a0 a1 = some r) : WF r := by
  unfold p61 at hp
  by_cases hg1 : (a0) < (0 : Int32) ∨ 60 ≤ (a0).toNatClampNeg
  · rw [if_pos hg1] at hp; cases hp
  rw [if_neg hg1] at hp
  by_cases hg2 : (a0) < (0 : Int32) ∨ 60 ≤ (a0).toNatClampNeg
  · rw [if_pos hg2] at hp; cases hp
  rw [if_neg hg2] at hp
  have hp := Option.some.inj hp
  subst hp
  exact (w)
theorem f62_0 : fetch 62 0 = some (.iload_n 1, 0, 0, 0) := rfl
theorem f62_1 : fetch 62 1 = some (.iconst 0, 0, 0, 0) := rfl
theorem f62_2 : fetch 62 2 = some (.aload_n 0, 0, 0, 0) := rfl
theorem f62_3 : fetch 62 3 = some (.getfield 37, 4, 0, 0) := rfl
theorem f62_6 : fetch 62 6 = some (.iconst 1, 0, 0, 0) := rfl
theorem f62_7 : fetch 62 7 = some (.isub, 0, 0, 0) := rfl
theorem f62_8 : fetch 62 8 = some (.invokestatic 41, 166, 3, 2) := rfl
theorem f62_11 : fetch 62 11 = some (.ireturn, 0, 0, 1) := rfl
set_option maxRecDepth 100000 in
set_option maxHeartbeats 4000000 in
theorem p62_ok (d : Nat) (h : HS) (w : WF h) (a0 : Int32) (r : Int32) (hp : p62 h a0 = some r) : ex (d + 1) 62 (ent 62 [.ref (68), .int (a0)] h) = some (some (.int (r)), h) := by
  rw [show ent 62 [.ref (68), .int (a0)] h = (0, [some (.ref (68)), some (.int (a0))], [], h) from by  rfl]
  refine ex_weak (ls := [some (.ref (68)), some (.int (a0))]) (le2_ok ⟨Or.inr rfl, Or.inr rfl, trivial⟩) ?_
  unfold p62 at hp
  refine e_iload_n f62_0 rfl ?_
  refine e_iconst (v := 0) f62_1 (by decide) ?_
  refine e_aload_n f62_2 rfl ?_
  refine e_getI f62_3 (WF.t w 68 (by decide)) (by decide) ?_
  refine e_iconst (v := 1) f62_6 (by decide) ?_
  refine e_isub f62_7 ?_
  obtain ⟨r1, hr2, hp⟩ := bind_some hp
  try dsimp only at hp
  refine e_callS (st := []) (as := [.int (a0), .int (0), .int ((hI (h) (68) 0) - (1))]) f62_8 (by decide) rfl rfl (Nat.le_of_ble_eq_true rfl) (Nat.le_of_ble_eq_true rfl) (p166_ok d (h) w (a0) (0) ((hI (h) (68) 0) - (1)) r1 hr2) ?_
  show ex _ 62 (11, [some (.ref (68)), some (.int (a0))], [.int (r1)], h) = _
  by_cases hg3 : (r1) = (0 : Int32) ∨ (r1) = (1 : Int32)
  rotate_left
  · rw [if_neg hg3] at hp; cases hp
  rw [if_pos hg3] at hp
  have hp := Option.some.inj hp
  subst hp
  exact e_ireturn f62_11 (Or.inr hg3)
theorem f63_0 : fetch 63 0 = some (.aload_n 0, 0, 0, 0) := rfl
theorem f63_1 : fetch 63 1 = some (.getfield 37, 4, 0, 0) := rfl
theorem f63_4 : fetch 63 4 = some (.bipush 60, 0, 0, 0) := rfl
theorem f63_6 : fetch 63 6 = some (.if_icmp .lt 5, 11, 0, 0) := rfl
theorem f63_9 : fetch 63 9 = some (.iconst (-1), 0, 0, 0) := rfl
theorem f63_10 : fetch 63 10 = some (.ireturn, 0, 0, 0) := rfl
theorem f63_11 : fetch 63 11 = some (.aload_n 0, 0, 0, 0) := rfl
theorem f63_12 : fetch 63 12 = some (.getfield 9, 4, 1, 2) := rfl
theorem f63_15 : fetch 63 15 = some (.aload_n 0, 0, 0, 0) := rfl
theorem f63_16 : fetch 63 16 = some (.getfield 37, 4, 0, 0) := rfl
theorem f63_19 : fetch 63 19 = some (.iload_n 1, 0, 0, 0) := rfl
theorem f63_20 : fetch 63 20 = some (.iastore, 0, 0, 0) := rfl
theorem f63_21 : fetch 63 21 = some (.aload_n 0, 0, 0, 0) := rfl
theorem f63_22 : fetch 63 22 = some (.getfield 15, 4, 2, 2) := rfl
theorem f63_25 : fetch 63 25 = some (.aload_n 0, 0, 0, 0) := rfl
theorem f63_26 : fetch 63 26 = some (.getfield 37, 4, 0, 0) := rfl
theorem f63_29 : fetch 63 29 = some (.iload_n 2, 0, 0, 0) := rfl
theorem f63_30 : fetch 63 30 = some (.iastore, 0, 0, 0) := rfl
theorem f63_31 : fetch 63 31 = some (.aload_n 0, 0, 0, 0) := rfl
theorem f63_32 : fetch 63 32 = some (.getfield 18, 4, 3, 2) := rfl
theorem f63_35 : fetch 63 35 = some (.aload_n 0, 0, 0, 0) := rfl
theorem f63_36 : fetch 63 36 = some (.getfield 37, 4, 0, 0) := rfl
theorem f63_39 : fetch 63 39 = some (.iload_n 3, 0, 0, 0) := rfl
theorem f63_40 : fetch 63 40 = some (.iastore, 0, 0, 0) := rfl
theorem f63_41 : fetch 63 41 = some (.aload_n 0, 0, 0, 0) := rfl
theorem f63_42 : fetch 63 42 = some (.getfield 21, 4, 4, 2) := rfl
theorem f63_45 : fetch 63 45 = some (.aload_n 0, 0, 0, 0) := rfl
theorem f63_46 : fetch 63 46 = some (.getfield 37, 4, 0, 0) := rfl
theorem f63_49 : fetch 63 49 = some (.sipush 4000, 0, 0, 0) := rfl
theorem f63_52 : fetch 63 52 = some (.iastore, 0, 0, 0) := rfl
theorem f63_53 : fetch 63 53 = some (.aload_n 0, 0, 0, 0) := rfl
theorem f63_54 : fetch 63 54 = some (.dup, 0, 0, 0) := rfl
theorem f63_55 : fetch 63 55 = some (.getfield 37, 4, 0, 0) := rfl
theorem f63_58 : fetch 63 58 = some (.dup_x1, 0, 0, 0) := rfl
theorem f63_59 : fetch 63 59 = some (.iconst 1, 0, 0, 0) := rfl
theorem f63_60 : fetch 63 60 = some (.iadd, 0, 0, 0) := rfl
theorem f63_61 : fetch 63 61 = some (.putfield 37, 4, 0, 0) := rfl
theorem f63_64 : fetch 63 64 = some (.ireturn, 0, 0, 0) := rfl
set_option maxRecDepth 100000 in
set_option maxHeartbeats 4000000 in
theorem p63_ok (d : Nat) (h : HS) (w : WF h) (a0 : Int32) (a1 : Int32) (a2 : Int32) (r : Int32 × HS) (hp : p63 h a0 a1 a2 = some r) : ex (d + 0) 63 (ent 63 [.ref (68), .int (a0), .int (a1), .int (a2)] h) = some (some (.int (r.1)), r.2) := by
  rw [show ent 63 [.ref (68), .int (a0), .int (a1), .int (a2)] h = (0, [some (.ref (68)), some (.int (a0)), some (.int (a1)), some (.int (a2))], [], h) from by  rfl]
  refine ex_weak (ls := [some (.ref (68)), some (.int (a0)), some (.int (a1)), some (.int (a2))]) (le2_ok ⟨Or.inr rfl, Or.inr rfl, Or.inr rfl, Or.inr rfl, trivial⟩) ?_
  unfold p63 at hp
  refine e_aload_n f63_0 rfl ?_
  refine e_getI f63_1 (WF.t w 68 (by decide)) (by decide) ?_
  refine e_bipush (v := 60) f63_4 (by decide) ?_
  by_cases hc1 : (hI (h) (68) 0) < ((60) : Int32)
  · rw [if_pos hc1] at hp
    refine e_icmp_lt_t f63_6 hc1 ?_
    refine e_aload_n f63_11 rfl ?_
    refine e_getR f63_12 (WF.t w 68 (by decide)) rfl (WF.r (q := 69) w 68 1 (by decide)) ?_
    refine e_aload_n f63_15 rfl ?_
    refine e_getI f63_16 (WF.t w 68 (by decide)) (by decide) ?_
    refine e_iload_n f63_19 rfl ?_
    by_cases hg2 : (hI (h) (68) 0) < (0 : Int32) ∨ 60 ≤ (hI (h) (68) 0).toNatClampNeg
    · rw [if_pos hg2] at hp; cases hp
    rw [if_neg hg2] at hp
    refine e_iastore f63_20 (WF.t w 69 (by decide)) (WF.n w 69 (by decide)) hg2 ?_
    refine e_aload_n f63_21 rfl ?_
    refine e_getR f63_22 (WF.t w 68 (by decide)) rfl (WF.r (q := 70) w 68 2 (by decide)) ?_
    refine e_aload_n f63_25 rfl ?_
    refine e_getI f63_26 (WF.t w 68 (by decide)) (by decide) ?_
    refine e_iload_n f63_29 rfl ?_
    by_cases hg3 : (hI (hsI (h) (69) (hI (h) (68) 0).toNatClampNeg (a0)) (68) 0) < (0 : Int32) ∨ 60 ≤ (hI (hsI (h) (69) (hI (h) (68) 0).toNatClampNeg (a0)) (68) 0).toNatClampNeg
    · rw [if_pos hg3] at hp; cases hp
    rw [if_neg hg3] at hp
    refine e_iastore f63_30 (WF.t w 70 (by decide)) (WF.n w 70 (by decide)) hg3 ?_
    obtain ⟨h4, e5, hp⟩ := bind_some hp
    try dsimp only at hp
    have e5 := Option.some.inj e5
    have w6 : WF h4 := e5 ▸ w
    rw [e5]
    refine e_aload_n f63_31 rfl ?_
    refine e_getR f63_32 (WF.t w6 68 (by decide)) rfl (WF.r (q := 71) w6 68 3 (by decide)) ?_
    refine e_aload_n f63_35 rfl ?_
    refine e_getI f63_36 (WF.t w6 68 (by decide)) (by decide) ?_
    refine e_iload_n f63_39 rfl ?_
    by_cases hg7 : (hI (h4) (68) 0) < (0 : Int32) ∨ 60 ≤ (hI (h4) (68) 0).toNatClampNeg
    · rw [if_pos hg7] at hp; cases hp
    rw [if_neg hg7] at hp
    refine e_iastore f63_40 (WF.t w6 71 (by decide)) (WF.n w6 71 (by decide)) hg7 ?_
    refine e_aload_n f63_41 rfl ?_
    refine e_getR f63_42 (WF.t w6 68 (by decide)) rfl (WF.r (q := 72) w6 68 4 (by decide)) ?_
    refine e_aload_n f63_45 rfl ?_
    refine e_getI f63_46 (WF.t w6 68 (by decide)) (by decide) ?_
    refine e_sipush (v := 4000) f63_49 (by decide) ?_
    by_cases hg8 : (hI (hsI (h4) (71) (hI (h4) (68) 0).toNatClampNeg (a2)) (68) 0) < (0 : Int32) ∨ 60 ≤ (hI (hsI (h4) (71) (hI (h4) (68) 0).toNatClampNeg (a2)) (68) 0).toNatClampNeg
    · rw [if_pos hg8] at hp; cases hp
    rw [if_neg hg8] at hp
    refine e_iastore f63_52 (WF.t w6 72 (by decide)) (WF.n w6 72 (by decide)) hg8 ?_
    obtain ⟨h9, e10, hp⟩ := bind_some hp
    try dsimp only at hp
    have e10 := Option.some.inj e10
    have w11 : WF h9 := e10 ▸ w6
    rw [e10]
    refine e_aload_n f63_53 rfl ?_
    refine e_dup f63_54 rfl ?_
    refine e_getI f63_55 (WF.t w11 68 (by decide)) (by decide) ?_
    refine e_dup_x1 f63_58 rfl rfl ?_
    refine e_iconst (v := 1) f63_59 (by decide) ?_
    refine e_iadd f63_60 ?_
    refine e_putI f63_61 (WF.t w11 68 (by decide)) rfl ?_
    have hp := Option.some.inj hp
    subst hp
    exact e_ireturn f63_64 (Or.inl rfl)
  · rw [if_neg hc1] at hp
    refine e_icmp_lt_f f63_6 hc1 ?_
    refine e_iconst (v := -1) f63_9 (by decide) ?_
    have hp := Option.some.inj hp
    subst hp
    exact e_ireturn f63_10 (Or.inl rfl)
set_option maxRecDepth 100000 in
set_option maxHeartbeats 4000000 in
theorem p63_w (h : HS) (w : WF h) (a0 : Int32) (a1 : Int32) (a2 : Int32) (r : Int32 × HS) (hp : p63 h a0 a1 a2 = some r) : WF r.2 := by
  unfold p63 at hp
  by_cases hc1 : (hI (h) (68) 0) < ((60) : Int32)
  · rw [if_pos hc1] at hp
    by_cases hg2 : (hI (h) (68) 0) < (0 : Int32) ∨ 60 ≤ (hI (h) (68) 0).toNatClampNeg
    · rw [if_pos hg2] at hp; cases hp
    rw [if_neg hg2] at hp
    by_cases hg3 : (hI (hsI (h) (69) (hI (h) (68) 0).toNatClampNeg (a0)) (68) 0) < (0 : Int32) ∨ 60 ≤ (hI (hsI (h) (69) (hI (h) (68) 0).toNatClampNeg (a0)) (68) 0).toNatClampNeg
    · rw [if_pos hg3] at hp; cases hp
    rw [if_neg hg3] at hp
    obtain ⟨h4, e5, hp⟩ := bind_some hp
    try dsimp only at hp
    have e5 := Option.some.inj e5
    have w6 : WF h4 := e5 ▸ w
    by_cases hg7 : (hI (h4) (68) 0) < (0 : Int32) ∨ 60 ≤ (hI (h4) (68) 0).toNatClampNeg
    · rw [if_pos hg7] at hp; cases hp
    rw [if_neg hg7] at hp
    by_cases hg8 : (hI (hsI (h4) (71) (hI (h4) (68) 0).toNatClampNeg (a2)) (68) 0) < (0 : Int32) ∨ 60 ≤ (hI (hsI (h4) (71) (hI (h4) (68) 0).toNatClampNeg (a2)) (68) 0).toNatClampNeg
    · rw [if_pos hg8] at hp; cases hp
    rw [if_neg hg8] at hp
    obtain ⟨h9, e10, hp⟩ := bind_some hp
    try dsimp only at hp
    have e10 := Option.some.inj e10
    have w11 : WF h9 := e10 ▸ w6
    have hp := Option.some.inj hp
    subst hp
    exact (w11)
  · rw [if_neg hc1] at hp
    have hp := Option.some.inj hp
    subst hp
    exact (w)
theorem f64_0 : fetch 64 0 = some (.aload_n 0, 0, 0, 0) := rfl
theorem f64_1 : fetch 64 1 = some (.getfield 24, 4, 5, 2) := rfl
theorem f64_4 : fetch 64 4 = some (.iload_n 1, 0, 0, 0) := rfl
theorem f64_5 : fetch 64 5 = some (.baload, 0, 0, 0) := rfl
theorem f64_6 : fetch 64 6 = some (.ifCond .eq 5, 11, 0, 0) := rfl
theorem f64_9 : fetch 64 9 = some (.iconst 0, 0, 0, 0) := rfl
theorem f64_10 : fetch 64 10 = some (.ireturn, 0, 0, 1) := rfl
theorem f64_11 : fetch 64 11 = some (.aload_n 0, 0, 0, 0) := rfl
theorem f64_12 : fetch 64 12 = some (.getfield 24, 4, 5, 2) := rfl
theorem f64_15 : fetch 64 15 = some (.iload_n 1, 0, 0, 0) := rfl
theorem f64_16 : fetch 64 16 = some (.iconst 1, 0, 0, 0) := rfl
theorem f64_17 : fetch 64 17 = some (.bastore, 0, 0, 0) := rfl
theorem f64_18 : fetch 64 18 = some (.iload_n 2, 0, 0, 0) := rfl
theorem f64_19 : fetch 64 19 = some (.ifCond .eq 10, 29, 0, 0) := rfl
theorem f64_22 : fetch 64 22 = some (.aload_n 0, 0, 0, 0) := rfl
theorem f64_23 : fetch 64 23 = some (.getfield 21, 4, 4, 2) := rfl
theorem f64_26 : fetch 64 26 = some (.iload_n 1, 0, 0, 0) := rfl
theorem f64_27 : fetch 64 27 = some (.iload_n 3, 0, 0, 0) := rfl
theorem f64_28 : fetch 64 28 = some (.iastore, 0, 0, 0) := rfl
theorem f64_29 : fetch 64 29 = some (.iconst 1, 0, 0, 0) := rfl
theorem f64_30 : fetch 64 30 = some (.ireturn, 0, 0, 1) := rfl
set_option maxRecDepth 100000 in
set_option maxHeartbeats 4000000 in
theorem p64_ok (d : Nat) (h : HS) (w : WF h) (a0 : Int32) (a1 : Int32) (a2 : Int32) (r : Int32 × HS) (hp : p64 h a0 a1 a2 = some r) : ex (d + 0) 64 (ent 64 [.ref (68), .int (a0), .int (a1), .int (a2)] h) = some (some (.int (r.1)), r.2) := by
  rw [show ent 64 [.ref (68), .int (a0), .int (a1), .int (a2)] h = (0, [some (.ref (68)), some (.int (a0)), some (.int (a1)), some (.int (a2))], [], h) from by  rfl]
  refine ex_weak (ls := [some (.ref (68)), some (.int (a0)), some (.int (a1)), some (.int (a2))]) (le2_ok ⟨Or.inr rfl, Or.inr rfl, Or.inr rfl, Or.inr rfl, trivial⟩) ?_
  unfold p64 at hp
  refine e_aload_n f64_0 rfl ?_
  refine e_getR f64_1 (WF.t w 68 (by decide)) rfl (WF.r (q := 73) w 68 5 (by decide)) ?_
  refine e_iload_n f64_4 rfl ?_
  by_cases hg1 : (a0) < (0 : Int32) ∨ 60 ≤ (a0).toNatClampNeg
  · rw [if_pos hg1] at hp; cases hp
  rw [if_neg hg1] at hp
  refine e_baload f64_5 (Or.inr (WF.t w 73 (by decide))) (WF.n w 73 (by decide)) hg1 ?_
  by_cases hc2 : (hI (h) (73) (a0).toNatClampNeg) = (0 : Int32)
  · rw [if_pos hc2] at hp
    refine e_if_eq_t f64_6 hc2 ?_
    refine e_aload_n f64_11 rfl ?_
    refine e_getR f64_12 (WF.t w 68 (by decide)) rfl (WF.r (q := 73) w 68 5 (by decide)) ?_
    refine e_iload_n f64_15 rfl ?_
    refine e_iconst (v := 1) f64_16 (by decide) ?_
    by_cases hg3 : (a0) < (0 : Int32) ∨ 60 ≤ (a0).toNatClampNeg
    · rw [if_pos hg3] at hp; cases hp
    rw [if_neg hg3] at hp
    refine e_zastore f64_17 (WF.t w 73 (by decide)) (WF.n w 73 (by decide)) hg3 ?_
    refine e_iload_n f64_18 rfl ?_
    by_cases hc4 : (a1) = (0 : Int32)
    · rw [if_pos hc4] at hp
      refine e_if_eq_t f64_19 hc4 ?_
      refine e_iconst (v := 1) f64_29 (by decide) ?_
      have hp := Option.some.inj hp
      subst hp
      exact e_ireturn f64_30 (by decide)
    · rw [if_neg hc4] at hp
      refine e_if_eq_f f64_19 hc4 ?_
      refine e_aload_n f64_22 rfl ?_
      refine e_getR f64_23 (WF.t w 68 (by decide)) rfl (WF.r (q := 72) w 68 4 (by decide)) ?_
      refine e_iload_n f64_26 rfl ?_
      refine e_iload_n f64_27 rfl ?_
      by_cases hg5 : (a0) < (0 : Int32) ∨ 60 ≤ (a0).toNatClampNeg
      · rw [if_pos hg5] at hp; cases hp
      rw [if_neg hg5] at hp
      refine e_iastore f64_28 (WF.t w 72 (by decide)) (WF.n w 72 (by decide)) hg5 ?_
      refine e_iconst (v := 1) f64_29 (by decide) ?_
      have hp := Option.some.inj hp
      subst hp
      exact e_ireturn f64_30 (by decide)
  · rw [if_neg hc2] at hp
    refine e_if_eq_f f64_6 hc2 ?_
    refine e_iconst (v := 0) f64_9 (by decide) ?_
    have hp := Option.some.inj hp
    subst hp
    exact e_ireturn f64_10 (by decide)
set_option maxRecDepth 100000 in
set_option maxHeartbeats 4000000 in
theorem p64_w (h : HS) (w : WF h) (a0 : Int32) (a1 : Int32) (a2 : Int32) (r : Int32 × HS) (hp : p64 h a0 a1 a2 = some r) : WF r.2 := by
  unfold p64 at hp
  by_cases hg1 : (a0) < (0 : Int32) ∨ 60 ≤ (a0).toNatClampNeg
  · rw [if_pos hg1] at hp; cases hp
  rw [if_neg hg1] at hp
  by_cases hc2 : (hI (h) (73) (a0).toNatClampNeg) = (0 : Int32)
  · rw [if_pos hc2] at hp
    by_cases hg3 : (a0) < (0 : Int32) ∨ 60 ≤ (a0).toNatClampNeg
    · rw [if_pos hg3] at hp; cases hp
    rw [if_neg hg3] at hp
    by_cases hc4 : (a1) = (0 : Int32)
    · rw [if_pos hc4] at hp
      have hp := Option.some.inj hp
      subst hp
      exact (w)
    · rw [if_neg hc4] at hp
      by_cases hg5 : (a0) < (0 : Int32) ∨ 60 ≤ (a0).toNatClampNeg
      · rw [if_pos hg5] at hp; cases hp
      rw [if_neg hg5] at hp
      have hp := Option.some.inj hp
      subst hp
      exact (w)
  · rw [if_neg hc2] at hp
    have hp := Option.some.inj hp
    subst hp
    exact (w)
theorem f65_0 : fetch 65 0 = some (.aload_n 0, 0, 0, 0) := rfl
theorem f65_1 : fetch 65 1 = some (.getfield 28, 4, 6, 2) := rfl
theorem f65_4 : fetch 65 4 = some (.iload_n 1, 0, 0, 0) := rfl
theorem f65_5 : fetch 65 5 = some (.iaload, 0, 0, 0) := rfl
theorem f65_6 : fetch 65 6 = some (.iconst (-1), 0, 0, 0) := rfl
theorem f65_7 : fetch 65 7 = some (.if_icmp .eq 17, 24, 0, 0) := rfl
theorem f65_10 : fetch 65 10 = some (.aload_n 0, 0, 0, 0) := rfl
theorem f65_11 : fetch 65 11 = some (.getfield 31, 4, 7, 2) := rfl
theorem f65_14 : fetch 65 14 = some (.iload_n 1, 0, 0, 0) := rfl
theorem f65_15 : fetch 65 15 = some (.iaload, 0, 0, 0) := rfl
theorem f65_16 : fetch 65 16 = some (.iconst (-1), 0, 0, 0) := rfl
theorem f65_17 : fetch 65 17 = some (.if_icmp .ne 7, 24, 0, 0) := rfl
theorem f65_20 : fetch 65 20 = some (.iconst 1, 0, 0, 0) := rfl
theorem f65_21 : fetch 65 21 = some (.goto 4, 25, 0, 0) := rfl
theorem f65_24 : fetch 65 24 = some (.iconst 0, 0, 0, 0) := rfl
theorem f65_25 : fetch 65 25 = some (.ireturn, 0, 0, 1) := rfl
set_option maxRecDepth 100000 in
set_option maxHeartbeats 4000000 in
theorem p65_ok (d : Nat) (h : HS) (w : WF h) (a0 : Int32) (r : Int32) (hp : p65 h a0 = some r) : ex (d + 0) 65 (ent 65 [.ref (68), .int (a0)] h) = some (some (.int (r)), h) := by
  rw [show ent 65 [.ref (68), .int (a0)] h = (0, [some (.ref (68)), some (.int (a0))], [], h) from by  rfl]
  refine ex_weak (ls := [some (.ref (68)), some (.int (a0))]) (le2_ok ⟨Or.inr rfl, Or.inr rfl, trivial⟩) ?_
  unfold p65 at hp
  refine e_aload_n f65_0 rfl ?_
  refine e_getR f65_1 (WF.t w 68 (by decide)) rfl (WF.r (q := 74) w 68 6 (by decide)) ?_
  refine e_iload_n f65_4 rfl ?_
  by_cases hg1 : (a0) < (0 : Int32) ∨ 60 ≤ (a0).toNatClampNeg
  · rw [if_pos hg1] at hp; cases hp
  rw [if_neg hg1] at hp
  refine e_iaload f65_5 (Or.inl (WF.t w 74 (by decide))) (WF.n w 74 (by decide)) hg1 ?_
  refine e_iconst (v := -1) f65_6 (by decide) ?_
  by_cases hc2 : (hI (h) (74) (a0).toNatClampNeg) = (((-1)) : Int32)
  · rw [if_pos hc2] at hp
    refine e_icmp_eq_t f65_7 hc2 ?_
    refine e_iconst (v := 0) f65_24 (by decide) ?_
    have hp := Option.some.inj hp
    subst hp
    exact e_ireturn f65_25 (by decide)
  · rw [if_neg hc2] at hp
    refine e_icmp_eq_f f65_7 hc2 ?_
    refine e_aload_n f65_10 rfl ?_
    refine e_getR f65_11 (WF.t w 68 (by decide)) rfl (WF.r (q := 75) w 68 7 (by decide)) ?_
    refine e_iload_n f65_14 rfl ?_
    by_cases hg3 : (a0) < (0 : Int32) ∨ 60 ≤ (a0).toNatClampNeg
    · rw [if_pos hg3] at hp; cases hp
    rw [if_neg hg3] at hp
    refine e_iaload f65_15 (Or.inl (WF.t w 75 (by decide))) (WF.n w 75 (by decide)) hg3 ?_
    refine e_iconst (v := -1) f65_16 (by decide) ?_
    by_cases hc4 : (hI (h) (75) (a0).toNatClampNeg) = (((-1)) : Int32)
    · rw [if_pos hc4] at hp
      refine e_icmp_ne_f f65_17 hc4 ?_
      refine e_iconst (v := 1) f65_20 (by decide) ?_
      refine e_goto f65_21 ?_
      have hp := Option.some.inj hp
      subst hp
      exact e_ireturn f65_25 (by decide)
    · rw [if_neg hc4] at hp
      refine e_icmp_ne_t f65_17 hc4 ?_
      refine e_iconst (v := 0) f65_24 (by decide) ?_
      have hp := Option.some.inj hp
      subst hp
      exact e_ireturn f65_25 (by decide)
theorem f66_0 : fetch 66 0 = some (.aload_n 0, 0, 0, 0) := rfl
theorem f66_1 : fetch 66 1 = some (.getfield 31, 4, 7, 2) := rfl
theorem f66_4 : fetch 66 4 = some (.iload_n 1, 0, 0, 0) := rfl
theorem f66_5 : fetch 66 5 = some (.iconst (-1), 0, 0, 0) := rfl
theorem f66_6 : fetch 66 6 = some (.iastore, 0, 0, 0) := rfl
theorem f66_7 : fetch 66 7 = some (.aload_n 0, 0, 0, 0) := rfl
theorem f66_8 : fetch 66 8 = some (.getfield 34, 4, 8, 2) := rfl
theorem f66_11 : fetch 66 11 = some (.iload_n 1, 0, 0, 0) := rfl
theorem f66_12 : fetch 66 12 = some (.dup2, 0, 0, 0) := rfl
theorem f66_13 : fetch 66 13 = some (.iaload, 0, 0, 0) := rfl
theorem f66_14 : fetch 66 14 = some (.iconst 1, 0, 0, 0) := rfl
theorem f66_15 : fetch 66 15 = some (.iadd, 0, 0, 0) := rfl
theorem f66_16 : fetch 66 16 = some (.iastore, 0, 0, 0) := rfl
theorem f66_17 : fetch 66 17 = some (.return_, 0, 0, 0) := rfl
set_option maxRecDepth 100000 in
set_option maxHeartbeats 4000000 in
theorem p66_ok (d : Nat) (h : HS) (w : WF h) (a0 : Int32) (r : HS) (hp : p66 h a0 = some r) : ex (d + 0) 66 (ent 66 [.ref (68), .int (a0)] h) = some (none, r) := by
  rw [show ent 66 [.ref (68), .int (a0)] h = (0, [some (.ref (68)), some (.int (a0))], [], h) from by  rfl]
  refine ex_weak (ls := [some (.ref (68)), some (.int (a0))]) (le2_ok ⟨Or.inr rfl, Or.inr rfl, trivial⟩) ?_
  unfold p66 at hp
  refine e_aload_n f66_0 rfl ?_
  refine e_getR f66_1 (WF.t w 68 (by decide)) rfl (WF.r (q := 75) w 68 7 (by decide)) ?_
  refine e_iload_n f66_4 rfl ?_
  refine e_iconst (v := -1) f66_5 (by decide) ?_
  by_cases hg1 : (a0) < (0 : Int32) ∨ 60 ≤ (a0).toNatClampNeg
  · rw [if_pos hg1] at hp; cases hp
  rw [if_neg hg1] at hp
  refine e_iastore f66_6 (WF.t w 75 (by decide)) (WF.n w 75 (by decide)) hg1 ?_
  refine e_aload_n f66_7 rfl ?_
  refine e_getR f66_8 (WF.t w 68 (by decide)) rfl (WF.r (q := 76) w 68 8 (by decide)) ?_
  refine e_iload_n f66_11 rfl ?_
  refine e_dup2 f66_12 rfl rfl ?_
  by_cases hg2 : (a0) < (0 : Int32) ∨ 60 ≤ (a0).toNatClampNeg
  · rw [if_pos hg2] at hp; cases hp
  rw [if_neg hg2] at hp
  refine e_iaload f66_13 (Or.inl (WF.t w 76 (by decide))) (WF.n w 76 (by decide)) hg2 ?_
  refine e_iconst (v := 1) f66_14 (by decide) ?_
  refine e_iadd f66_15 ?_
  by_cases hg3 : (a0) < (0 : Int32) ∨ 60 ≤ (a0).toNatClampNeg
  · rw [if_pos hg3] at hp; cases hp
  rw [if_neg hg3] at hp
  refine e_iastore f66_16 (WF.t w 76 (by decide)) (WF.n w 76 (by decide)) hg3 ?_
  obtain ⟨h4, e5, hp⟩ := bind_some hp
  try dsimp only at hp
  have e5 := Option.some.inj e5
  have w6 : WF h4 := e5 ▸ w
  rw [e5]
  have hp := Option.some.inj hp
  subst hp
  exact e_return f66_17
set_option maxRecDepth 100000 in
set_option maxHeartbeats 4000000 in
theorem p66_w (h : HS) (w : WF h) (a0 : Int32) (r : HS) (hp : p66 h a0 = some r) : WF r := by
  unfold p66 at hp
  by_cases hg1 : (a0) < (0 : Int32) ∨ 60 ≤ (a0).toNatClampNeg
  · rw [if_pos hg1] at hp; cases hp
  rw [if_neg hg1] at hp
  by_cases hg2 : (a0) < (0 : Int32) ∨ 60 ≤ (a0).toNatClampNeg
  · rw [if_pos hg2] at hp; cases hp
  rw [if_neg hg2] at hp
  by_cases hg3 : (a0) < (0 : Int32) ∨ 60 ≤ (a0).toNatClampNeg
  · rw [if_pos hg3] at hp; cases hp
  rw [if_neg hg3] at hp
  obtain ⟨h4, e5, hp⟩ := bind_some hp
  try dsimp only at hp
  have e5 := Option.some.inj e5
  have w6 : WF h4 := e5 ▸ w
  have hp := Option.some.inj hp
  subst hp
  exact (w6)
theorem f67_0 : fetch 67 0 = some (.aload_n 0, 0, 0, 0) := rfl
theorem f67_1 : fetch 67 1 = some (.invokespecial 3, 0, 0, 5) := rfl
theorem f67_4 : fetch 67 4 = some (.aload_n 0, 0, 0, 0) := rfl
theorem f67_5 : fetch 67 5 = some (.sipush 4000, 0, 0, 0) := rfl
theorem f67_8 : fetch 67 8 = some (.putfield 9, 5, 2, 0) := rfl
theorem f67_11 : fetch 67 11 = some (.aload_n 0, 0, 0, 0) := rfl
theorem f67_12 : fetch 67 12 = some (.aload_n 1, 0, 0, 0) := rfl
theorem f67_13 : fetch 67 13 = some (.putfield 15, 5, 0, 2) := rfl
theorem f67_16 : fetch 67 16 = some (.aload_n 0, 0, 0, 0) := rfl
theorem f67_17 : fetch 67 17 = some (.iload_n 2, 0, 0, 0) := rfl
theorem f67_18 : fetch 67 18 = some (.putfield 19, 5, 1, 0) := rfl
theorem f67_21 : fetch 67 21 = some (.return_, 0, 0, 0) := rfl
set_option maxRecDepth 100000 in
set_option maxHeartbeats 4000000 in
theorem p67_ok (d : Nat) (h : HS) (w : WF h) (o : Nat) (a0 : Option Nat) (a1 : Int32) (ho : hT h o = 5) (r : HS) (hp : p67 h o a0 a1 = some r) : ex (d + 0) 67 (ent 67 [.ref (o), va_rf (a0), .int (a1)] h) = some (none, r) := by
  rw [show ent 67 [.ref (o), va_rf (a0), .int (a1)] h = (0, [some (.ref (o)), some (va_rf (a0)), some (.int (a1))], [], h) from by cases a0 <;> rfl]
  refine ex_weak (ls := [some (.ref (o)), some (va_rf (a0)), some (.int (a1))]) (le2_ok ⟨Or.inr rfl, Or.inr rfl, Or.inr rfl, trivial⟩) ?_
  unfold p67 at hp
  refine e_aload_n f67_0 rfl ?_
  refine e_obj f67_1 rfl (Nat.le_of_ble_eq_true rfl) ?_
  refine e_aload_n f67_4 rfl ?_
  refine e_sipush (v := 4000) f67_5 (by decide) ?_
  refine e_putI f67_8 ho rfl ?_
  refine e_aload_n f67_11 rfl ?_
  refine e_qload_n f67_12 rfl ?_
  refine e_putQ f67_13 ho rfl ?_
  refine e_aload_n f67_16 rfl ?_
  refine e_iload_n f67_17 rfl ?_
  refine e_putI f67_18 ho rfl ?_
  have hp := Option.some.inj hp
  subst hp
  exact e_return f67_21
set_option maxRecDepth 100000 in
set_option maxHeartbeats 4000000 in
theorem p67_w (h : HS) (w : WF h) (o : Nat) (a0 : Option Nat) (a1 : Int32) (ho : hT h o = 5) (r : HS) (hp : p67 h o a0 a1 = some r) : WF r := by
  unfold p67 at hp
  have hp := Option.some.inj hp
  subst hp
  exact ((WF.rr (j := 0) (v := a0) w (o) (WF.own w ho)))
theorem f72_0 : fetch 72 0 = some (.aload_n 0, 0, 0, 0) := rfl
theorem f72_1 : fetch 72 1 = some (.invokespecial 1, 0, 0, 5) := rfl
theorem f72_4 : fetch 72 4 = some (.aload_n 0, 0, 0, 0) := rfl
theorem f72_5 : fetch 72 5 = some (.iload_n 1, 0, 0, 0) := rfl
theorem f72_6 : fetch 72 6 = some (.putfield 7, 6, 0, 0) := rfl
theorem f72_9 : fetch 72 9 = some (.aload_n 0, 0, 0, 0) := rfl
theorem f72_10 : fetch 72 10 = some (.iload_n 2, 0, 0, 0) := rfl
theorem f72_11 : fetch 72 11 = some (.putfield 13, 6, 1, 1) := rfl
theorem f72_14 : fetch 72 14 = some (.return_, 0, 0, 0) := rfl
set_option maxRecDepth 100000 in
set_option maxHeartbeats 4000000 in
theorem p72_ok (d : Nat) (h : HS) (w : WF h) (o : Nat) (a0 : Int32) (a1 : Int32) (ho : hT h o = 6) (r : HS) (hp : p72 h o a0 a1 = some r) : ex (d + 0) 72 (ent 72 [.ref (o), .int (a0), .int (a1)] h) = some (none, r) := by
  rw [show ent 72 [.ref (o), .int (a0), .int (a1)] h = (0, [some (.ref (o)), some (.int (a0)), some (.int (a1))], [], h) from by  rfl]
  refine ex_weak (ls := [some (.ref (o)), some (.int (a0)), some (.int (a1))]) (le2_ok ⟨Or.inr rfl, Or.inr rfl, Or.inr rfl, trivial⟩) ?_
  unfold p72 at hp
  refine e_aload_n f72_0 rfl ?_
  refine e_obj f72_1 rfl (Nat.le_of_ble_eq_true rfl) ?_
  refine e_aload_n f72_4 rfl ?_
  refine e_iload_n f72_5 rfl ?_
  refine e_putI f72_6 ho rfl ?_
  refine e_aload_n f72_9 rfl ?_
  refine e_iload_n f72_10 rfl ?_
  by_cases hg1 : (a1) = (0 : Int32) ∨ (a1) = (1 : Int32)
  rotate_left
  · rw [if_neg hg1] at hp; cases hp
  rw [if_pos hg1] at hp
  refine e_putZ f72_11 ho rfl hg1 ?_
  have hp := Option.some.inj hp
  subst hp
  exact e_return f72_14
set_option maxRecDepth 100000 in
set_option maxHeartbeats 4000000 in
theorem p72_w (h : HS) (w : WF h) (o : Nat) (a0 : Int32) (a1 : Int32) (ho : hT h o = 6) (r : HS) (hp : p72 h o a0 a1 = some r) : WF r := by
  unfold p72 at hp
  by_cases hg1 : (a1) = (0 : Int32) ∨ (a1) = (1 : Int32)
  rotate_left
  · rw [if_neg hg1] at hp; cases hp
  rw [if_pos hg1] at hp
  have hp := Option.some.inj hp
  subst hp
  exact (w)
theorem f74_0 : fetch 74 0 = some (.aload_n 0, 0, 0, 0) := rfl
theorem f74_1 : fetch 74 1 = some (.getfield 38, 7, 1, 0) := rfl
theorem f74_4 : fetch 74 4 = some (.bipush 12, 0, 0, 0) := rfl
theorem f74_6 : fetch 74 6 = some (.if_icmp .ge 24, 30, 0, 0) := rfl
theorem f74_9 : fetch 74 9 = some (.iload_n 1, 0, 0, 0) := rfl
theorem f74_10 : fetch 74 10 = some (.iconst 1, 0, 0, 0) := rfl
theorem f74_11 : fetch 74 11 = some (.sipush 511, 0, 0, 0) := rfl
theorem f74_14 : fetch 74 14 = some (.invokestatic 42, 166, 3, 2) := rfl
theorem f74_17 : fetch 74 17 = some (.ifCond .eq 13, 30, 0, 0) := rfl
theorem f74_20 : fetch 74 20 = some (.iload_n 2, 0, 0, 0) := rfl
theorem f74_21 : fetch 74 21 = some (.iconst 1, 0, 0, 0) := rfl
theorem f74_22 : fetch 74 22 = some (.bipush 99, 0, 0, 0) := rfl
theorem f74_24 : fetch 74 24 = some (.invokestatic 42, 166, 3, 2) := rfl
theorem f74_27 : fetch 74 27 = some (.ifCond .ne 5, 32, 0, 0) := rfl
theorem f74_30 : fetch 74 30 = some (.iconst (-1), 0, 0, 0) := rfl
theorem f74_31 : fetch 74 31 = some (.ireturn, 0, 0, 0) := rfl
theorem f74_32 : fetch 74 32 = some (.aload_n 0, 0, 0, 0) := rfl
theorem f74_33 : fetch 74 33 = some (.getfield 9, 7, 2, 2) := rfl
theorem f74_36 : fetch 74 36 = some (.aload_n 0, 0, 0, 0) := rfl
theorem f74_37 : fetch 74 37 = some (.getfield 38, 7, 1, 0) := rfl
theorem f74_40 : fetch 74 40 = some (.iload_n 1, 0, 0, 0) := rfl
theorem f74_41 : fetch 74 41 = some (.iastore, 0, 0, 0) := rfl
theorem f74_42 : fetch 74 42 = some (.aload_n 0, 0, 0, 0) := rfl
theorem f74_43 : fetch 74 43 = some (.getfield 15, 7, 3, 2) := rfl
theorem f74_46 : fetch 74 46 = some (.aload_n 0, 0, 0, 0) := rfl
theorem f74_47 : fetch 74 47 = some (.getfield 38, 7, 1, 0) := rfl
theorem f74_50 : fetch 74 50 = some (.iload_n 2, 0, 0, 0) := rfl
theorem f74_51 : fetch 74 51 = some (.iastore, 0, 0, 0) := rfl
theorem f74_52 : fetch 74 52 = some (.aload_n 0, 0, 0, 0) := rfl
theorem f74_53 : fetch 74 53 = some (.dup, 0, 0, 0) := rfl
theorem f74_54 : fetch 74 54 = some (.getfield 38, 7, 1, 0) := rfl
theorem f74_57 : fetch 74 57 = some (.iconst 1, 0, 0, 0) := rfl
theorem f74_58 : fetch 74 58 = some (.iadd, 0, 0, 0) := rfl
theorem f74_59 : fetch 74 59 = some (.putfield 38, 7, 1, 0) := rfl
theorem f74_62 : fetch 74 62 = some (.aload_n 0, 0, 0, 0) := rfl
theorem f74_63 : fetch 74 63 = some (.getfield 38, 7, 1, 0) := rfl
theorem f74_66 : fetch 74 66 = some (.ireturn, 0, 0, 0) := rfl
set_option maxRecDepth 100000 in
set_option maxHeartbeats 4000000 in
theorem p74_ok (d : Nat) (h : HS) (w : WF h) (a0 : Int32) (a1 : Int32) (r : Int32 × HS) (hp : p74 h a0 a1 = some r) : ex (d + 1) 74 (ent 74 [.ref (77), .int (a0), .int (a1)] h) = some (some (.int (r.1)), r.2) := by
  rw [show ent 74 [.ref (77), .int (a0), .int (a1)] h = (0, [some (.ref (77)), some (.int (a0)), some (.int (a1))], [], h) from by  rfl]
  refine ex_weak (ls := [some (.ref (77)), some (.int (a0)), some (.int (a1))]) (le2_ok ⟨Or.inr rfl, Or.inr rfl, Or.inr rfl, trivial⟩) ?_
  unfold p74 at hp
  refine e_aload_n f74_0 rfl ?_
  refine e_getI f74_1 (WF.t w 77 (by decide)) (by decide) ?_
  refine e_bipush (v := 12) f74_4 (by decide) ?_
  by_cases hc1 : (hI (h) (77) 1) < ((12) : Int32)
  · rw [if_pos hc1] at hp
    refine e_icmp_ge_f f74_6 hc1 ?_
    refine e_iload_n f74_9 rfl ?_
    refine e_iconst (v := 1) f74_10 (by decide) ?_
    refine e_sipush (v := 511) f74_11 (by decide) ?_
    obtain ⟨r2, hr3, hp⟩ := bind_some hp
    try dsimp only at hp
    refine e_callS (st := []) (as := [.int (a0), .int (1), .int (511)]) f74_14 (by decide) rfl rfl (Nat.le_of_ble_eq_true rfl) (Nat.le_of_ble_eq_true rfl) (p166_ok d (h) w (a0) (1) (511) r2 hr3) ?_
    show ex _ 74 (17, [some (.ref (77)), some (.int (a0)), some (.int (a1))], [.int (r2)], h) = _
    by_cases hc4 : (r2) = (0 : Int32)
    · rw [if_pos hc4] at hp
      refine e_if_eq_t f74_17 hc4 ?_
      refine e_iconst (v := -1) f74_30 (by decide) ?_
      have hp := Option.some.inj hp
      subst hp
      exact e_ireturn f74_31 (Or.inl rfl)
    · rw [if_neg hc4] at hp
      refine e_if_eq_f f74_17 hc4 ?_
      refine e_iload_n f74_20 rfl ?_
      refine e_iconst (v := 1) f74_21 (by decide) ?_
      refine e_bipush (v := 99) f74_22 (by decide) ?_
      obtain ⟨r5, hr6, hp⟩ := bind_some hp
      try dsimp only at hp
      refine e_callS (st := []) (as := [.int (a1), .int (1), .int (99)]) f74_24 (by decide) rfl rfl (Nat.le_of_ble_eq_true rfl) (Nat.le_of_ble_eq_true rfl) (p166_ok d (h) w (a1) (1) (99) r5 hr6) ?_
      show ex _ 74 (27, [some (.ref (77)), some (.int (a0)), some (.int (a1))], [.int (r5)], h) = _
      by_cases hc7 : (r5) = (0 : Int32)
      · rw [if_pos hc7] at hp
        refine e_if_ne_f f74_27 hc7 ?_
        refine e_iconst (v := -1) f74_30 (by decide) ?_
        have hp := Option.some.inj hp
        subst hp
        exact e_ireturn f74_31 (Or.inl rfl)
      · rw [if_neg hc7] at hp
        refine e_if_ne_t f74_27 hc7 ?_
        refine e_aload_n f74_32 rfl ?_
        refine e_getR f74_33 (WF.t w 77 (by decide)) rfl (WF.r (q := 78) w 77 2 (by decide)) ?_
        refine e_aload_n f74_36 rfl ?_
        refine e_getI f74_37 (WF.t w 77 (by decide)) (by decide) ?_
        refine e_iload_n f74_40 rfl ?_
        by_cases hg8 : (hI (h) (77) 1) < (0 : Int32) ∨ 12 ≤ (hI (h) (77) 1).toNatClampNeg
        · rw [if_pos hg8] at hp; cases hp
        rw [if_neg hg8] at hp
        refine e_iastore f74_41 (WF.t w 78 (by decide)) (WF.n w 78 (by decide)) hg8 ?_
        refine e_aload_n f74_42 rfl ?_
        refine e_getR f74_43 (WF.t w 77 (by decide)) rfl (WF.r (q := 79) w 77 3 (by decide)) ?_
        refine e_aload_n f74_46 rfl ?_
        refine e_getI f74_47 (WF.t w 77 (by decide)) (by decide) ?_
        refine e_iload_n f74_50 rfl ?_
        by_cases hg9 : (hI (hsI (h) (78) (hI (h) (77) 1).toNatClampNeg (a0)) (77) 1) < (0 : Int32) ∨ 12 ≤ (hI (hsI (h) (78) (hI (h) (77) 1).toNatClampNeg (a0)) (77) 1).toNatClampNeg
        · rw [if_pos hg9] at hp; cases hp
        rw [if_neg hg9] at hp
        refine e_iastore f74_51 (WF.t w 79 (by decide)) (WF.n w 79 (by decide)) hg9 ?_
        obtain ⟨h10, e11, hp⟩ := bind_some hp
        try dsimp only at hp
        have e11 := Option.some.inj e11
        have w12 : WF h10 := e11 ▸ w
        rw [e11]
        refine e_aload_n f74_52 rfl ?_
        refine e_dup f74_53 rfl ?_
        refine e_getI f74_54 (WF.t w12 77 (by decide)) (by decide) ?_
        refine e_iconst (v := 1) f74_57 (by decide) ?_
        refine e_iadd f74_58 ?_
        refine e_putI f74_59 (WF.t w12 77 (by decide)) rfl ?_
        refine e_aload_n f74_62 rfl ?_
        refine e_getI f74_63 (WF.t w12 77 (by decide)) (by decide) ?_
        have hp := Option.some.inj hp
        subst hp
        exact e_ireturn f74_66 (Or.inl rfl)
  · rw [if_neg hc1] at hp
    refine e_icmp_ge_t f74_6 hc1 ?_
    refine e_iconst (v := -1) f74_30 (by decide) ?_
    have hp := Option.some.inj hp
    subst hp
    exact e_ireturn f74_31 (Or.inl rfl)
set_option maxRecDepth 100000 in
set_option maxHeartbeats 4000000 in
theorem p74_w (h : HS) (w : WF h) (a0 : Int32) (a1 : Int32) (r : Int32 × HS) (hp : p74 h a0 a1 = some r) : WF r.2 := by
  unfold p74 at hp
  by_cases hc1 : (hI (h) (77) 1) < ((12) : Int32)
  · rw [if_pos hc1] at hp
    obtain ⟨r2, hr3, hp⟩ := bind_some hp
    try dsimp only at hp
    by_cases hc4 : (r2) = (0 : Int32)
    · rw [if_pos hc4] at hp
      have hp := Option.some.inj hp
      subst hp
      exact (w)
    · rw [if_neg hc4] at hp
      obtain ⟨r5, hr6, hp⟩ := bind_some hp
      try dsimp only at hp
      by_cases hc7 : (r5) = (0 : Int32)
      · rw [if_pos hc7] at hp
        have hp := Option.some.inj hp
        subst hp
        exact (w)
      · rw [if_neg hc7] at hp
        by_cases hg8 : (hI (h) (77) 1) < (0 : Int32) ∨ 12 ≤ (hI (h) (77) 1).toNatClampNeg
        · rw [if_pos hg8] at hp; cases hp
        rw [if_neg hg8] at hp
        by_cases hg9 : (hI (hsI (h) (78) (hI (h) (77) 1).toNatClampNeg (a0)) (77) 1) < (0 : Int32) ∨ 12 ≤ (hI (hsI (h) (78) (hI (h) (77) 1).toNatClampNeg (a0)) (77) 1).toNatClampNeg
        · rw [if_pos hg9] at hp; cases hp
        rw [if_neg hg9] at hp
        obtain ⟨h10, e11, hp⟩ := bind_some hp
        try dsimp only at hp
        have e11 := Option.some.inj e11
        have w12 : WF h10 := e11 ▸ w
        have hp := Option.some.inj hp
        subst hp
        exact (w12)
  · rw [if_neg hc1] at hp
    have hp := Option.some.inj hp
    subst hp
    exact (w)
theorem f75_0 : fetch 75 0 = some (.iload_n 1, 0, 0, 0) := rfl
theorem f75_1 : fetch 75 1 = some (.iconst 0, 0, 0, 0) := rfl
theorem f75_2 : fetch 75 2 = some (.aload_n 0, 0, 0, 0) := rfl
theorem f75_3 : fetch 75 3 = some (.getfield 46, 7, 4, 0) := rfl
theorem f75_6 : fetch 75 6 = some (.iconst 1, 0, 0, 0) := rfl
theorem f75_7 : fetch 75 7 = some (.isub, 0, 0, 0) := rfl
theorem f75_8 : fetch 75 8 = some (.invokestatic 42, 166, 3, 2) := rfl
theorem f75_11 : fetch 75 11 = some (.ifCond .eq 12, 23, 0, 0) := rfl
theorem f75_14 : fetch 75 14 = some (.aload_n 0, 0, 0, 0) := rfl
theorem f75_15 : fetch 75 15 = some (.getfield 18, 7, 5, 2) := rfl
theorem f75_18 : fetch 75 18 = some (.iload_n 1, 0, 0, 0) := rfl
theorem f75_19 : fetch 75 19 = some (.iaload, 0, 0, 0) := rfl
theorem f75_20 : fetch 75 20 = some (.goto 4, 24, 0, 0) := rfl
theorem f75_23 : fetch 75 23 = some (.iconst (-1), 0, 0, 0) := rfl
theorem f75_24 : fetch 75 24 = some (.ireturn, 0, 0, 0) := rfl
set_option maxRecDepth 100000 in
set_option maxHeartbeats 4000000 in
theorem p75_ok (d : Nat) (h : HS) (w : WF h) (a0 : Int32) (r : Int32) (hp : p75 h a0 = some r) : ex (d + 1) 75 (ent 75 [.ref (77), .int (a0)] h) = some (some (.int (r)), h) := by
  rw [show ent 75 [.ref (77), .int (a0)] h = (0, [some (.ref (77)), some (.int (a0))], [], h) from by  rfl]
  refine ex_weak (ls := [some (.ref (77)), some (.int (a0))]) (le2_ok ⟨Or.inr rfl, Or.inr rfl, trivial⟩) ?_
  unfold p75 at hp
  refine e_iload_n f75_0 rfl ?_
  refine e_iconst (v := 0) f75_1 (by decide) ?_
  refine e_aload_n f75_2 rfl ?_
  refine e_getI f75_3 (WF.t w 77 (by decide)) (by decide) ?_
  refine e_iconst (v := 1) f75_6 (by decide) ?_
  refine e_isub f75_7 ?_
  obtain ⟨r1, hr2, hp⟩ := bind_some hp
  try dsimp only at hp
  refine e_callS (st := []) (as := [.int (a0), .int (0), .int ((hI (h) (77) 4) - (1))]) f75_8 (by decide) rfl rfl (Nat.le_of_ble_eq_true rfl) (Nat.le_of_ble_eq_true rfl) (p166_ok d (h) w (a0) (0) ((hI (h) (77) 4) - (1)) r1 hr2) ?_
  show ex _ 75 (11, [some (.ref (77)), some (.int (a0))], [.int (r1)], h) = _
  by_cases hc3 : (r1) = (0 : Int32)
  · rw [if_pos hc3] at hp
    refine e_if_eq_t f75_11 hc3 ?_
    refine e_iconst (v := -1) f75_23 (by decide) ?_
    have hp := Option.some.inj hp
    subst hp
    exact e_ireturn f75_24 (Or.inl rfl)
  · rw [if_neg hc3] at hp
    refine e_if_eq_f f75_11 hc3 ?_
    refine e_aload_n f75_14 rfl ?_
    refine e_getR f75_15 (WF.t w 77 (by decide)) rfl (WF.r (q := 80) w 77 5 (by decide)) ?_
    refine e_iload_n f75_18 rfl ?_
    by_cases hg4 : (a0) < (0 : Int32) ∨ 9 ≤ (a0).toNatClampNeg
    · rw [if_pos hg4] at hp; cases hp
    rw [if_neg hg4] at hp
    refine e_iaload f75_19 (Or.inl (WF.t w 80 (by decide))) (WF.n w 80 (by decide)) hg4 ?_
    refine e_goto f75_20 ?_
    have hp := Option.some.inj hp
    subst hp
    exact e_ireturn f75_24 (Or.inl rfl)
theorem f77_0 : fetch 77 0 = some (.iconst 0, 0, 0, 0) := rfl
theorem f77_1 : fetch 77 1 = some (.istore 4, 0, 0, 0) := rfl
theorem f77_3 : fetch 77 3 = some (.iload 4, 0, 0, 0) := rfl
theorem f77_5 : fetch 77 5 = some (.iload_n 1, 0, 0, 0) := rfl
theorem f77_6 : fetch 77 6 = some (.if_icmp .ge 81, 87, 0, 0) := rfl
theorem f77_9 : fetch 77 9 = some (.aload_n 0, 0, 0, 0) := rfl
theorem f77_10 : fetch 77 10 = some (.getfield 21, 7, 6, 2) := rfl
theorem f77_13 : fetch 77 13 = some (.iload 4, 0, 0, 0) := rfl
theorem f77_15 : fetch 77 15 = some (.lload_n 2, 0, 0, 0) := rfl
theorem f77_16 : fetch 77 16 = some (.iconst 5, 0, 0, 0) := rfl
theorem f77_17 : fetch 77 17 = some (.iload 4, 0, 0, 0) := rfl
theorem f77_19 : fetch 77 19 = some (.imul, 0, 0, 0) := rfl
theorem f77_20 : fetch 77 20 = some (.lushr, 0, 0, 0) := rfl
theorem f77_21 : fetch 77 21 = some (.ldc2_w 70, 0, 0, 31) := rfl
theorem f77_24 : fetch 77 24 = some (.land, 0, 0, 0) := rfl
theorem f77_25 : fetch 77 25 = some (.l2i, 0, 0, 0) := rfl
theorem f77_26 : fetch 77 26 = some (.iastore, 0, 0, 0) := rfl
theorem f77_27 : fetch 77 27 = some (.aload_n 0, 0, 0, 0) := rfl
theorem f77_28 : fetch 77 28 = some (.getfield 34, 7, 0, 2) := rfl
theorem f77_31 : fetch 77 31 = some (.aload_n 0, 0, 0, 0) := rfl
theorem f77_32 : fetch 77 32 = some (.getfield 21, 7, 6, 2) := rfl
theorem f77_35 : fetch 77 35 = some (.iload 4, 0, 0, 0) := rfl
theorem f77_37 : fetch 77 37 = some (.iaload, 0, 0, 0) := rfl
theorem f77_38 : fetch 77 38 = some (.invokevirtual 72, 86, 1, 0) := rfl
theorem f77_41 : fetch 77 41 = some (.ifCond .ne 5, 46, 0, 0) := rfl
theorem f77_44 : fetch 77 44 = some (.iconst 0, 0, 0, 0) := rfl
theorem f77_45 : fetch 77 45 = some (.ireturn, 0, 0, 1) := rfl
theorem f77_46 : fetch 77 46 = some (.iconst 0, 0, 0, 0) := rfl
theorem f77_47 : fetch 77 47 = some (.istore 5, 0, 0, 0) := rfl
theorem f77_49 : fetch 77 49 = some (.iload 5, 0, 0, 0) := rfl
theorem f77_51 : fetch 77 51 = some (.iload 4, 0, 0, 0) := rfl
theorem f77_53 : fetch 77 53 = some (.if_icmp .ge 28, 81, 0, 0) := rfl
theorem f77_56 : fetch 77 56 = some (.aload_n 0, 0, 0, 0) := rfl
theorem f77_57 : fetch 77 57 = some (.getfield 21, 7, 6, 2) := rfl
theorem f77_60 : fetch 77 60 = some (.iload 5, 0, 0, 0) := rfl
theorem f77_62 : fetch 77 62 = some (.iaload, 0, 0, 0) := rfl
theorem f77_63 : fetch 77 63 = some (.aload_n 0, 0, 0, 0) := rfl
theorem f77_64 : fetch 77 64 = some (.getfield 21, 7, 6, 2) := rfl
theorem f77_67 : fetch 77 67 = some (.iload 4, 0, 0, 0) := rfl
theorem f77_69 : fetch 77 69 = some (.iaload, 0, 0, 0) := rfl
theorem f77_70 : fetch 77 70 = some (.if_icmp .ne 5, 75, 0, 0) := rfl
theorem f77_73 : fetch 77 73 = some (.iconst 0, 0, 0, 0) := rfl
theorem f77_74 : fetch 77 74 = some (.ireturn, 0, 0, 1) := rfl
theorem f77_75 : fetch 77 75 = some (.iinc 5 1, 0, 0, 0) := rfl
theorem f77_78 : fetch 77 78 = some (.goto (-29), 49, 0, 0) := rfl
theorem f77_81 : fetch 77 81 = some (.iinc 4 1, 0, 0, 0) := rfl
theorem f77_84 : fetch 77 84 = some (.goto (-81), 3, 0, 0) := rfl
theorem f77_87 : fetch 77 87 = some (.iconst 1, 0, 0, 0) := rfl
theorem f77_88 : fetch 77 88 = some (.ireturn, 0, 0, 1) := rfl
set_option maxRecDepth 100000 in
set_option maxHeartbeats 4000000 in
theorem p77_L49_ok (d : Nat) (F : Nat) (a0 : Int32) (a1 : Int64) (K3 : HS → Int32 → Option (Int32 × HS)) (hK3 : ∀ (h : HS) (w : WF h) (u4 : Int32) (r : Int32 × HS), K3 h u4 = some r → ex (d + 2) 77 (3, [some (.ref (77)), some (.int (a0)), some (.long (a1)), none, some (.int (u4)), none], [], h) = some (some (.int (r.1)), r.2)) : ∀ (n : Nat) (h : HS) (w : WF h) (v4 : Int32) (v5 : Int32) (r : Int32 × HS), p77_L49 F a0 a1 K3 n h v4 v5 = some r → ex (d + 2) 77 (49, [some (.ref (77)), some (.int (a0)), some (.long (a1)), none, some (.int (v4)), some (.int (v5))], [], h) = some (some (.int (r.1)), r.2) := by
  intro n
  induction n with
  | zero => intro h w v4 v5 r hp; cases hp
  | succ n ih =>
    intro h w v4 v5 r hp
    unfold p77_L49 at hp
    refine e_iload f77_49 rfl ?_
    refine e_iload f77_51 rfl ?_
    by_cases hc10 : (v5) < ((v4) : Int32)
    · rw [if_pos hc10] at hp
      refine e_icmp_ge_f f77_53 hc10 ?_
      refine e_aload_n f77_56 rfl ?_
      refine e_getR f77_57 (WF.t w 77 (by decide)) rfl (WF.r (q := 81) w 77 6 (by decide)) ?_
      refine e_iload f77_60 rfl ?_
      by_cases hg11 : (v5) < (0 : Int32) ∨ 9 ≤ (v5).toNatClampNeg
      · rw [if_pos hg11] at hp; cases hp
      rw [if_neg hg11] at hp
      refine e_iaload f77_62 (Or.inl (WF.t w 81 (by decide))) (WF.n w 81 (by decide)) hg11 ?_
      refine e_aload_n f77_63 rfl ?_
      refine e_getR f77_64 (WF.t w 77 (by decide)) rfl (WF.r (q := 81) w 77 6 (by decide)) ?_
      refine e_iload f77_67 rfl ?_
      by_cases hg12 : (v4) < (0 : Int32) ∨ 9 ≤ (v4).toNatClampNeg
      · rw [if_pos hg12] at hp; cases hp
      rw [if_neg hg12] at hp
      refine e_iaload f77_69 (Or.inl (WF.t w 81 (by decide))) (WF.n w 81 (by decide)) hg12 ?_
      by_cases hc13 : (hI (h) (81) (v5).toNatClampNeg) = ((hI (h) (81) (v4).toNatClampNeg) : Int32)
      · rw [if_pos hc13] at hp
        refine e_icmp_ne_f f77_70 hc13 ?_
        refine e_iconst (v := 0) f77_73 (by decide) ?_
        have hp := Option.some.inj hp
        subst hp
        exact e_ireturn f77_74 (by decide)
      · rw [if_neg hc13] at hp
        refine e_icmp_ne_t f77_70 hc13 ?_
        refine e_iinc (ls2 := [some (.ref (77)), some (.int (a0)), some (.long (a1)), none, some (.int (v4)), some (.int ((v5) + 1))]) f77_75 (by decide) rfl rfl ?_
        refine e_goto f77_78 ?_
        refine ex_weak (ls := [some (.ref (77)), some (.int (a0)), some (.long (a1)), none, some (.int (v4)), some (.int ((v5) + 1))]) (le2_ok ⟨Or.inr rfl, Or.inr rfl, Or.inr rfl, Or.inl rfl, Or.inr rfl, Or.inr rfl, trivial⟩) ?_
        exact ih (h) (w) (v4) ((v5) + 1) _ hp
    · rw [if_neg hc10] at hp
      refine e_icmp_ge_t f77_53 hc10 ?_
      refine e_iinc (ls2 := [some (.ref (77)), some (.int (a0)), some (.long (a1)), none, some (.int ((v4) + 1)), some (.int (v5))]) f77_81 (by decide) rfl rfl ?_
      refine e_goto f77_84 ?_
      refine ex_weak (ls := [some (.ref (77)), some (.int (a0)), some (.long (a1)), none, some (.int ((v4) + 1)), none]) (le2_ok ⟨Or.inr rfl, Or.inr rfl, Or.inr rfl, Or.inl rfl, Or.inr rfl, Or.inl rfl, trivial⟩) ?_
      exact hK3 (h) (w) ((v4) + 1) _ hp
set_option maxRecDepth 100000 in
set_option maxHeartbeats 4000000 in
theorem p77_L49_w (F : Nat) (a0 : Int32) (a1 : Int64) (K3 : HS → Int32 → Option (Int32 × HS)) (hK3 : ∀ (h : HS) (w : WF h) (u4 : Int32) (r : Int32 × HS), K3 h u4 = some r → WF r.2) : ∀ (n : Nat) (h : HS) (w : WF h) (v4 : Int32) (v5 : Int32) (r : Int32 × HS), p77_L49 F a0 a1 K3 n h v4 v5 = some r → WF r.2 := by
  intro n
  induction n with
  | zero => intro h w v4 v5 r hp; cases hp
  | succ n ih =>
    intro h w v4 v5 r hp
    unfold p77_L49 at hp
    by_cases hc10 : (v5) < ((v4) : Int32)
    · rw [if_pos hc10] at hp
      by_cases hg11 : (v5) < (0 : Int32) ∨ 9 ≤ (v5).toNatClampNeg
      · rw [if_pos hg11] at hp; cases hp
      rw [if_neg hg11] at hp
      by_cases hg12 : (v4) < (0 : Int32) ∨ 9 ≤ (v4).toNatClampNeg
      · rw [if_pos hg12] at hp; cases hp
      rw [if_neg hg12] at hp
      by_cases hc13 : (hI (h) (81) (v5).toNatClampNeg) = ((hI (h) (81) (v4).toNatClampNeg) : Int32)
      · rw [if_pos hc13] at hp
        have hp := Option.some.inj hp
        subst hp
        exact (w)
      · rw [if_neg hc13] at hp
        exact ih (h) (w) (v4) ((v5) + 1) _ hp
    · rw [if_neg hc10] at hp
      exact hK3 (h) (w) ((v4) + 1) _ hp
set_option maxRecDepth 100000 in
set_option maxHeartbeats 4000000 in
theorem p77_L3_ok (d : Nat) (F : Nat) (a0 : Int32) (a1 : Int64) : ∀ (n : Nat) (h : HS) (w : WF h) (v4 : Int32) (r : Int32 × HS), p77_L3 F a0 a1 n h v4 = some r → ex (d + 2) 77 (3, [some (.ref (77)), some (.int (a0)), some (.long (a1)), none, some (.int (v4)), none], [], h) = some (some (.int (r.1)), r.2) := by
  intro n
  induction n with
  | zero => intro h w v4 r hp; cases hp
  | succ n ih =>
    intro h w v4 r hp
    unfold p77_L3 at hp
    refine e_iload f77_3 rfl ?_
    refine e_iload_n f77_5 rfl ?_
    by_cases hc1 : (v4) < ((a0) : Int32)
    · rw [if_pos hc1] at hp
      refine e_icmp_ge_f f77_6 hc1 ?_
      refine e_aload_n f77_9 rfl ?_
      refine e_getR f77_10 (WF.t w 77 (by decide)) rfl (WF.r (q := 81) w 77 6 (by decide)) ?_
      refine e_iload f77_13 rfl ?_
      refine e_lload_n f77_15 rfl ?_
      refine e_iconst (v := 5) f77_16 (by decide) ?_
      refine e_iload f77_17 rfl ?_
      refine e_imul f77_19 ?_
      refine e_lushr f77_20 ?_
      refine e_ldc2 (v := 31) f77_21 (by decide) ?_
      refine e_land f77_24 ?_
      refine e_l2i f77_25 ?_
      by_cases hg2 : (v4) < (0 : Int32) ∨ 9 ≤ (v4).toNatClampNeg
      · rw [if_pos hg2] at hp; cases hp
      rw [if_neg hg2] at hp
      refine e_iastore f77_26 (WF.t w 81 (by decide)) (WF.n w 81 (by decide)) hg2 ?_
      obtain ⟨h3, e4, hp⟩ := bind_some hp
      try dsimp only at hp
      have e4 := Option.some.inj e4
      have w5 : WF h3 := e4 ▸ w
      rw [e4]
      refine e_aload_n f77_27 rfl ?_
      refine e_getR f77_28 (WF.t w5 77 (by decide)) rfl (WF.r (q := 33) w5 77 0 (by decide)) ?_
      refine e_aload_n f77_31 rfl ?_
      refine e_getR f77_32 (WF.t w5 77 (by decide)) rfl (WF.r (q := 81) w5 77 6 (by decide)) ?_
      refine e_iload f77_35 rfl ?_
      by_cases hg6 : (v4) < (0 : Int32) ∨ 9 ≤ (v4).toNatClampNeg
      · rw [if_pos hg6] at hp; cases hp
      rw [if_neg hg6] at hp
      refine e_iaload f77_37 (Or.inl (WF.t w5 81 (by decide))) (WF.n w5 81 (by decide)) hg6 ?_
      obtain ⟨r7, hr8, hp⟩ := bind_some hp
      try dsimp only at hp
      refine e_callV (st := []) (o := 33) (as := [.int (hI (h3) (81) (v4).toNatClampNeg)]) f77_38 (by decide) rfl rfl (Nat.le_of_ble_eq_true rfl) (WF.t w5 33 (by decide)) (Nat.le_of_ble_eq_true rfl) (p86_ok d (h3) w5 (hI (h3) (81) (v4).toNatClampNeg) r7 hr8) ?_
      show ex _ 77 (41, [some (.ref (77)), some (.int (a0)), some (.long (a1)), none, some (.int (v4)), none], [.int (r7)], h3) = _
      by_cases hc9 : (r7) = (0 : Int32)
      · rw [if_pos hc9] at hp
        refine e_if_ne_f f77_41 hc9 ?_
        refine e_iconst (v := 0) f77_44 (by decide) ?_
        have hp := Option.some.inj hp
        subst hp
        exact e_ireturn f77_45 (by decide)
      · rw [if_neg hc9] at hp
        refine e_if_ne_t f77_41 hc9 ?_
        refine e_iconst (v := 0) f77_46 (by decide) ?_
        refine e_istore (ls2 := [some (.ref (77)), some (.int (a0)), some (.long (a1)), none, some (.int (v4)), some (.int (0))]) f77_47 (Nat.le_of_ble_eq_true rfl) rfl ?_
        refine ex_weak (ls := [some (.ref (77)), some (.int (a0)), some (.long (a1)), none, some (.int (v4)), some (.int (0))]) (le2_ok ⟨Or.inr rfl, Or.inr rfl, Or.inr rfl, Or.inl rfl, Or.inr rfl, Or.inr rfl, trivial⟩) ?_
        exact p77_L49_ok d F a0 a1 ((p77_L3 F a0 a1 n)) (ih) F (h3) (w5) (v4) (0) _ hp
    · rw [if_neg hc1] at hp
      refine e_icmp_ge_t f77_6 hc1 ?_
      refine e_iconst (v := 1) f77_87 (by decide) ?_
      have hp := Option.some.inj hp
      subst hp
      exact e_ireturn f77_88 (by decide)
set_option maxRecDepth 100000 in
set_option maxHeartbeats 4000000 in
theorem p77_L3_w (F : Nat) (a0 : Int32) (a1 : Int64) : ∀ (n : Nat) (h : HS) (w : WF h) (v4 : Int32) (r : Int32 × HS), p77_L3 F a0 a1 n h v4 = some r → WF r.2 := by
  intro n
  induction n with
  | zero => intro h w v4 r hp; cases hp
  | succ n ih =>
    intro h w v4 r hp
    unfold p77_L3 at hp
    by_cases hc1 : (v4) < ((a0) : Int32)
    · rw [if_pos hc1] at hp
      by_cases hg2 : (v4) < (0 : Int32) ∨ 9 ≤ (v4).toNatClampNeg
      · rw [if_pos hg2] at hp; cases hp
      rw [if_neg hg2] at hp
      obtain ⟨h3, e4, hp⟩ := bind_some hp
      try dsimp only at hp
      have e4 := Option.some.inj e4
      have w5 : WF h3 := e4 ▸ w
      by_cases hg6 : (v4) < (0 : Int32) ∨ 9 ≤ (v4).toNatClampNeg
      · rw [if_pos hg6] at hp; cases hp
      rw [if_neg hg6] at hp
      obtain ⟨r7, hr8, hp⟩ := bind_some hp
      try dsimp only at hp
      by_cases hc9 : (r7) = (0 : Int32)
      · rw [if_pos hc9] at hp
        have hp := Option.some.inj hp
        subst hp
        exact (w5)
      · rw [if_neg hc9] at hp
        exact p77_L49_w F a0 a1 ((p77_L3 F a0 a1 n)) (ih) F (h3) (w5) (v4) (0) _ hp
    · rw [if_neg hc1] at hp
      have hp := Option.some.inj hp
      subst hp
      exact (w)
set_option maxRecDepth 100000 in
set_option maxHeartbeats 4000000 in
theorem p77_ok (d : Nat) (F : Nat) (h : HS) (w : WF h) (a0 : Int32) (a1 : Int64) (r : Int32 × HS) (hp : p77 F h a0 a1 = some r) : ex (d + 2) 77 (ent 77 [.ref (77), .int (a0), .long (a1)] h) = some (some (.int (r.1)), r.2) := by
  rw [show ent 77 [.ref (77), .int (a0), .long (a1)] h = (0, [some (.ref (77)), some (.int (a0)), some (.long (a1)), none, none, none], [], h) from by  rfl]
  refine ex_weak (ls := [some (.ref (77)), some (.int (a0)), some (.long (a1)), none, none, none]) (le2_ok ⟨Or.inr rfl, Or.inr rfl, Or.inr rfl, Or.inr rfl, Or.inr rfl, Or.inr rfl, trivial⟩) ?_
  unfold p77 at hp
  refine e_iconst (v := 0) f77_0 (by decide) ?_
  refine e_istore (ls2 := [some (.ref (77)), some (.int (a0)), some (.long (a1)), none, some (.int (0)), none]) f77_1 (Nat.le_of_ble_eq_true rfl) rfl ?_
  refine ex_weak (ls := [some (.ref (77)), some (.int (a0)), some (.long (a1)), none, some (.int (0)), none]) (le2_ok ⟨Or.inr rfl, Or.inr rfl, Or.inr rfl, Or.inl rfl, Or.inr rfl, Or.inl rfl, trivial⟩) ?_
  exact p77_L3_ok d F a0 a1 F (h) (w) (0) _ hp
set_option maxRecDepth 100000 in
set_option maxHeartbeats 4000000 in
theorem p77_w (F : Nat) (h : HS) (w : WF h) (a0 : Int32) (a1 : Int64) (r : Int32 × HS) (hp : p77 F h a0 a1 = some r) : WF r.2 := by
  unfold p77 at hp
  exact p77_L3_w F a0 a1 F (h) (w) (0) _ hp
theorem f78_0 : fetch 78 0 = some (.iconst 0, 0, 0, 0) := rfl
theorem f78_1 : fetch 78 1 = some (.istore_n 2, 0, 0, 0) := rfl
theorem f78_2 : fetch 78 2 = some (.iload_n 2, 0, 0, 0) := rfl
theorem f78_3 : fetch 78 3 = some (.aload_n 0, 0, 0, 0) := rfl
theorem f78_4 : fetch 78 4 = some (.getfield 38, 7, 1, 0) := rfl
theorem f78_7 : fetch 78 7 = some (.if_icmp .ge 22, 29, 0, 0) := rfl
theorem f78_10 : fetch 78 10 = some (.aload_n 0, 0, 0, 0) := rfl
theorem f78_11 : fetch 78 11 = some (.getfield 9, 7, 2, 2) := rfl
theorem f78_14 : fetch 78 14 = some (.iload_n 2, 0, 0, 0) := rfl
theorem f78_15 : fetch 78 15 = some (.iaload, 0, 0, 0) := rfl
theorem f78_16 : fetch 78 16 = some (.iload_n 1, 0, 0, 0) := rfl
theorem f78_17 : fetch 78 17 = some (.iushr, 0, 0, 0) := rfl
theorem f78_18 : fetch 78 18 = some (.ifCond .eq 5, 23, 0, 0) := rfl
theorem f78_21 : fetch 78 21 = some (.iconst 0, 0, 0, 0) := rfl
theorem f78_22 : fetch 78 22 = some (.ireturn, 0, 0, 1) := rfl
theorem f78_23 : fetch 78 23 = some (.iinc 2 1, 0, 0, 0) := rfl
theorem f78_26 : fetch 78 26 = some (.goto (-24), 2, 0, 0) := rfl
theorem f78_29 : fetch 78 29 = some (.iconst 1, 0, 0, 0) := rfl
theorem f78_30 : fetch 78 30 = some (.ireturn, 0, 0, 1) := rfl
set_option maxRecDepth 100000 in
set_option maxHeartbeats 4000000 in
theorem p78_L2_ok (d : Nat) (F : Nat) (a0 : Int32) (h : HS) (w : WF h)  : ∀ (n : Nat) (v2 : Int32) (r : Int32), p78_L2 F a0 n h v2 = some r → ex (d + 0) 78 (2, [some (.ref (77)), some (.int (a0)), some (.int (v2))], [], h) = some (some (.int (r)), h) := by
  intro n
  induction n with
  | zero => intro v2 r hp; cases hp
  | succ n ih =>
    intro v2 r hp
    unfold p78_L2 at hp
    refine e_iload_n f78_2 rfl ?_
    refine e_aload_n f78_3 rfl ?_
    refine e_getI f78_4 (WF.t w 77 (by decide)) (by decide) ?_
    by_cases hc1 : (v2) < ((hI (h) (77) 1) : Int32)
    · rw [if_pos hc1] at hp
      refine e_icmp_ge_f f78_7 hc1 ?_
      refine e_aload_n f78_10 rfl ?_
      refine e_getR f78_11 (WF.t w 77 (by decide)) rfl (WF.r (q := 78) w 77 2 (by decide)) ?_
      refine e_iload_n f78_14 rfl ?_
      by_cases hg2 : (v2) < (0 : Int32) ∨ 12 ≤ (v2).toNatClampNeg
      · rw [if_pos hg2] at hp; cases hp
      rw [if_neg hg2] at hp
      refine e_iaload f78_15 (Or.inl (WF.t w 78 (by decide))) (WF.n w 78 (by decide)) hg2 ?_
      refine e_iload_n f78_16 rfl ?_
      refine e_iushr f78_17 ?_
      by_cases hc3 : (((hI (h) (78) (v2).toNatClampNeg).toUInt32 >>> ((a0).toUInt32 &&& Int32.toUInt32 31)).toInt32) = (0 : Int32)
      · rw [if_pos hc3] at hp
        refine e_if_eq_t f78_18 hc3 ?_
        refine e_iinc (ls2 := [some (.ref (77)), some (.int (a0)), some (.int ((v2) + 1))]) f78_23 (by decide) rfl rfl ?_
        refine e_goto f78_26 ?_
        refine ex_weak (ls := [some (.ref (77)), some (.int (a0)), some (.int ((v2) + 1))]) (le2_ok ⟨Or.inr rfl, Or.inr rfl, Or.inr rfl, trivial⟩) ?_
        exact ih ((v2) + 1) _ hp
      · rw [if_neg hc3] at hp
        refine e_if_eq_f f78_18 hc3 ?_
        refine e_iconst (v := 0) f78_21 (by decide) ?_
        have hp := Option.some.inj hp
        subst hp
        exact e_ireturn f78_22 (by decide)
    · rw [if_neg hc1] at hp
      refine e_icmp_ge_t f78_7 hc1 ?_
      refine e_iconst (v := 1) f78_29 (by decide) ?_
      have hp := Option.some.inj hp
      subst hp
      exact e_ireturn f78_30 (by decide)
set_option maxRecDepth 100000 in
set_option maxHeartbeats 4000000 in
theorem p78_ok (d : Nat) (F : Nat) (h : HS) (w : WF h) (a0 : Int32) (r : Int32) (hp : p78 F h a0 = some r) : ex (d + 0) 78 (ent 78 [.ref (77), .int (a0)] h) = some (some (.int (r)), h) := by
  rw [show ent 78 [.ref (77), .int (a0)] h = (0, [some (.ref (77)), some (.int (a0)), none], [], h) from by  rfl]
  refine ex_weak (ls := [some (.ref (77)), some (.int (a0)), none]) (le2_ok ⟨Or.inr rfl, Or.inr rfl, Or.inr rfl, trivial⟩) ?_
  unfold p78 at hp
  refine e_iconst (v := 0) f78_0 (by decide) ?_
  refine e_istore_n (ls2 := [some (.ref (77)), some (.int (a0)), some (.int (0))]) f78_1 (Nat.le_of_ble_eq_true rfl) rfl ?_
  refine ex_weak (ls := [some (.ref (77)), some (.int (a0)), some (.int (0))]) (le2_ok ⟨Or.inr rfl, Or.inr rfl, Or.inr rfl, trivial⟩) ?_
  exact p78_L2_ok d F a0 (h) (w) F (0) _ hp
theorem f79_0 : fetch 79 0 = some (.iconst 0, 0, 0, 0) := rfl
theorem f79_1 : fetch 79 1 = some (.istore_n 2, 0, 0, 0) := rfl
theorem f79_2 : fetch 79 2 = some (.iload_n 2, 0, 0, 0) := rfl
theorem f79_3 : fetch 79 3 = some (.iconst 1, 0, 0, 0) := rfl
theorem f79_4 : fetch 79 4 = some (.iload_n 1, 0, 0, 0) := rfl
theorem f79_5 : fetch 79 5 = some (.ishl, 0, 0, 0) := rfl
theorem f79_6 : fetch 79 6 = some (.if_icmp .ge 117, 123, 0, 0) := rfl
theorem f79_9 : fetch 79 9 = some (.iconst 0, 0, 0, 0) := rfl
theorem f79_10 : fetch 79 10 = some (.istore_n 3, 0, 0, 0) := rfl
theorem f79_11 : fetch 79 11 = some (.iconst 0, 0, 0, 0) := rfl
theorem f79_12 : fetch 79 12 = some (.istore 4, 0, 0, 0) := rfl
theorem f79_14 : fetch 79 14 = some (.iload 4, 0, 0, 0) := rfl
theorem f79_16 : fetch 79 16 = some (.iload_n 1, 0, 0, 0) := rfl
theorem f79_17 : fetch 79 17 = some (.if_icmp .ge 34, 51, 0, 0) := rfl
theorem f79_20 : fetch 79 20 = some (.iload_n 3, 0, 0, 0) := rfl
theorem f79_21 : fetch 79 21 = some (.iload_n 2, 0, 0, 0) := rfl
theorem f79_22 : fetch 79 22 = some (.iload 4, 0, 0, 0) := rfl
theorem f79_24 : fetch 79 24 = some (.iushr, 0, 0, 0) := rfl
theorem f79_25 : fetch 79 25 = some (.iconst 1, 0, 0, 0) := rfl
theorem f79_26 : fetch 79 26 = some (.iand, 0, 0, 0) := rfl
theorem f79_27 : fetch 79 27 = some (.aload_n 0, 0, 0, 0) := rfl
theorem f79_28 : fetch 79 28 = some (.getfield 34, 7, 0, 2) := rfl
theorem f79_31 : fetch 79 31 = some (.getfield 77, 8, 2, 2) := rfl
theorem f79_34 : fetch 79 34 = some (.aload_n 0, 0, 0, 0) := rfl
theorem f79_35 : fetch 79 35 = some (.getfield 21, 7, 6, 2) := rfl
theorem f79_38 : fetch 79 38 = some (.iload 4, 0, 0, 0) := rfl
theorem f79_40 : fetch 79 40 = some (.iaload, 0, 0, 0) := rfl
theorem f79_41 : fetch 79 41 = some (.iaload, 0, 0, 0) := rfl
theorem f79_42 : fetch 79 42 = some (.imul, 0, 0, 0) := rfl
theorem f79_43 : fetch 79 43 = some (.iadd, 0, 0, 0) := rfl
theorem f79_44 : fetch 79 44 = some (.istore_n 3, 0, 0, 0) := rfl
theorem f79_45 : fetch 79 45 = some (.iinc 4 1, 0, 0, 0) := rfl
theorem f79_48 : fetch 79 48 = some (.goto (-34), 14, 0, 0) := rfl
theorem f79_51 : fetch 79 51 = some (.iconst 0, 0, 0, 0) := rfl
theorem f79_52 : fetch 79 52 = some (.istore 4, 0, 0, 0) := rfl
theorem f79_54 : fetch 79 54 = some (.iconst 0, 0, 0, 0) := rfl
theorem f79_55 : fetch 79 55 = some (.istore 5, 0, 0, 0) := rfl
theorem f79_57 : fetch 79 57 = some (.iload 5, 0, 0, 0) := rfl
theorem f79_59 : fetch 79 59 = some (.aload_n 0, 0, 0, 0) := rfl
theorem f79_60 : fetch 79 60 = some (.getfield 38, 7, 1, 0) := rfl
theorem f79_63 : fetch 79 63 = some (.if_icmp .ge 39, 102, 0, 0) := rfl
theorem f79_66 : fetch 79 66 = some (.iload 4, 0, 0, 0) := rfl
theorem f79_68 : fetch 79 68 = some (.aload_n 0, 0, 0, 0) := rfl
theorem f79_69 : fetch 79 69 = some (.getfield 9, 7, 2, 2) := rfl
theorem f79_72 : fetch 79 72 = some (.iload 5, 0, 0, 0) := rfl
theorem f79_74 : fetch 79 74 = some (.iaload, 0, 0, 0) := rfl
theorem f79_75 : fetch 79 75 = some (.iload_n 2, 0, 0, 0) := rfl
theorem f79_76 : fetch 79 76 = some (.iconst (-1), 0, 0, 0) := rfl
theorem f79_77 : fetch 79 77 = some (.ixor, 0, 0, 0) := rfl
theorem f79_78 : fetch 79 78 = some (.iand, 0, 0, 0) := rfl
theorem f79_79 : fetch 79 79 = some (.ifCond .ne 13, 92, 0, 0) := rfl
theorem f79_82 : fetch 79 82 = some (.aload_n 0, 0, 0, 0) := rfl
theorem f79_83 : fetch 79 83 = some (.getfield 15, 7, 3, 2) := rfl
theorem f79_86 : fetch 79 86 = some (.iload 5, 0, 0, 0) := rfl
theorem f79_88 : fetch 79 88 = some (.iaload, 0, 0, 0) := rfl
theorem f79_89 : fetch 79 89 = some (.goto 4, 93, 0, 0) := rfl
theorem f79_92 : fetch 79 92 = some (.iconst 0, 0, 0, 0) := rfl
theorem f79_93 : fetch 79 93 = some (.iadd, 0, 0, 0) := rfl
theorem f79_94 : fetch 79 94 = some (.istore 4, 0, 0, 0) := rfl
theorem f79_96 : fetch 79 96 = some (.iinc 5 1, 0, 0, 0) := rfl
theorem f79_99 : fetch 79 99 = some (.goto (-42), 57, 0, 0) := rfl
theorem f79_102 : fetch 79 102 = some (.aload_n 0, 0, 0, 0) := rfl
theorem f79_103 : fetch 79 103 = some (.getfield 24, 7, 7, 2) := rfl
theorem f79_106 : fetch 79 106 = some (.iload_n 2, 0, 0, 0) := rfl
theorem f79_107 : fetch 79 107 = some (.iload_n 3, 0, 0, 0) := rfl
theorem f79_108 : fetch 79 108 = some (.iastore, 0, 0, 0) := rfl
theorem f79_109 : fetch 79 109 = some (.aload_n 0, 0, 0, 0) := rfl
theorem f79_110 : fetch 79 110 = some (.getfield 27, 7, 8, 2) := rfl
theorem f79_113 : fetch 79 113 = some (.iload_n 2, 0, 0, 0) := rfl
theorem f79_114 : fetch 79 114 = some (.iload 4, 0, 0, 0) := rfl
theorem f79_116 : fetch 79 116 = some (.iastore, 0, 0, 0) := rfl
theorem f79_117 : fetch 79 117 = some (.iinc 2 1, 0, 0, 0) := rfl
theorem f79_120 : fetch 79 120 = some (.goto (-118), 2, 0, 0) := rfl
theorem f79_123 : fetch 79 123 = some (.return_, 0, 0, 0) := rfl
set_option maxRecDepth 100000 in
set_option maxHeartbeats 4000000 in
theorem p79_j93_ok (d : Nat) (F : Nat) (a0 : Int32) (K2 : HS → Int32 → Option (HS)) (K57 : HS → Int32 → Int32 → Int32 → Int32 → Option (HS)) (hK2 : ∀ (h : HS) (w : WF h) (u2 : Int32) (r : HS), K2 h u2 = some r → ex (d + 0) 79 (2, [some (.ref (77)), some (.int (a0)), some (.int (u2)), none, none, none], [], h) = some (none, r)) (hK57 : ∀ (h : HS) (w : WF h) (u2 : Int32) (u3 : Int32) (u4 : Int32) (u5 : Int32) (r : HS), K57 h u2 u3 u4 u5 = some r → ex (d + 0) 79 (57, [some (.ref (77)), some (.int (a0)), some (.int (u2)), some (.int (u3)), some (.int (u4)), some (.int (u5))], [], h) = some (none, r)) (h : HS) (w : WF h) (v2 : Int32) (v3 : Int32) (v5 : Int32) (s0 : Int32) (s1 : Int32) (r : HS) (hp : p79_j93 F a0 K2 K57 h v2 v3 v5 s0 s1 = some r) : ex (d + 0) 79 (93, [some (.ref (77)), some (.int (a0)), some (.int (v2)), some (.int (v3)), none, some (.int (v5))], [.int (s0), .int (s1)], h) = some (none, r) := by
  unfold p79_j93 at hp
  refine e_iadd f79_93 ?_
  refine e_istore (ls2 := [some (.ref (77)), some (.int (a0)), some (.int (v2)), some (.int (v3)), some (.int ((s1) + (s0))), some (.int (v5))]) f79_94 (Nat.le_of_ble_eq_true rfl) rfl ?_
  refine e_iinc (ls2 := [some (.ref (77)), some (.int (a0)), some (.int (v2)), some (.int (v3)), some (.int ((s1) + (s0))), some (.int ((v5) + 1))]) f79_96 (by decide) rfl rfl ?_
  refine e_goto f79_99 ?_
  refine ex_weak (ls := [some (.ref (77)), some (.int (a0)), some (.int (v2)), some (.int (v3)), some (.int ((s1) + (s0))), some (.int ((v5) + 1))]) (le2_ok ⟨Or.inr rfl, Or.inr rfl, Or.inr rfl, Or.inr rfl, Or.inr rfl, Or.inr rfl, trivial⟩) ?_
  exact hK57 (h) (w) (v2) (v3) ((s1) + (s0)) ((v5) + 1) _ hp
set_option maxRecDepth 100000 in
set_option maxHeartbeats 4000000 in
theorem p79_j93_w (F : Nat) (a0 : Int32) (K2 : HS → Int32 → Option (HS)) (K57 : HS → Int32 → Int32 → Int32 → Int32 → Option (HS)) (hK2 : ∀ (h : HS) (w : WF h) (u2 : Int32) (r : HS), K2 h u2 = some r → WF r) (hK57 : ∀ (h : HS) (w : WF h) (u2 : Int32) (u3 : Int32) (u4 : Int32) (u5 : Int32) (r : HS), K57 h u2 u3 u4 u5 = some r → WF r) (h : HS) (w : WF h) (v2 : Int32) (v3 : Int32) (v5 : Int32) (s0 : Int32) (s1 : Int32) (r : HS) (hp : p79_j93 F a0 K2 K57 h v2 v3 v5 s0 s1 = some r) : WF r := by
  unfold p79_j93 at hp
  exact hK57 (h) (w) (v2) (v3) ((s1) + (s0)) ((v5) + 1) _ hp
set_option maxRecDepth 100000 in
set_option maxHeartbeats 4000000 in
theorem p79_L57_ok (d : Nat) (F : Nat) (a0 : Int32) (K2 : HS → Int32 → Option (HS)) (hK2 : ∀ (h : HS) (w : WF h) (u2 : Int32) (r : HS), K2 h u2 = some r → ex (d + 0) 79 (2, [some (.ref (77)), some (.int (a0)), some (.int (u2)), none, none, none], [], h) = some (none, r)) : ∀ (n : Nat) (h : HS) (w : WF h) (v2 : Int32) (v3 : Int32) (v4 : Int32) (v5 : Int32) (r : HS), p79_L57 F a0 K2 n h v2 v3 v4 v5 = some r → ex (d + 0) 79 (57, [some (.ref (77)), some (.int (a0)), some (.int (v2)), some (.int (v3)), some (.int (v4)), some (.int (v5))], [], h) = some (none, r) := by
  intro n
  induction n with
  | zero => intro h w v2 v3 v4 v5 r hp; cases hp
  | succ n ih =>
    intro h w v2 v3 v4 v5 r hp
    unfold p79_L57 at hp
    refine e_iload f79_57 rfl ?_
    refine e_aload_n f79_59 rfl ?_
    refine e_getI f79_60 (WF.t w 77 (by decide)) (by decide) ?_
    by_cases hc5 : (v5) < ((hI (h) (77) 1) : Int32)
    · rw [if_pos hc5] at hp
      refine e_icmp_ge_f f79_63 hc5 ?_
      refine e_iload f79_66 rfl ?_
      refine e_aload_n f79_68 rfl ?_
      refine e_getR f79_69 (WF.t w 77 (by decide)) rfl (WF.r (q := 78) w 77 2 (by decide)) ?_
      refine e_iload f79_72 rfl ?_
      by_cases hg6 : (v5) < (0 : Int32) ∨ 12 ≤ (v5).toNatClampNeg
      · rw [if_pos hg6] at hp; cases hp
      rw [if_neg hg6] at hp
      refine e_iaload f79_74 (Or.inl (WF.t w 78 (by decide))) (WF.n w 78 (by decide)) hg6 ?_
      refine e_iload_n f79_75 rfl ?_
      refine e_iconst (v := -1) f79_76 (by decide) ?_
      refine e_ixor f79_77 ?_
      refine e_iand f79_78 ?_
      by_cases hc7 : ((hI (h) (78) (v5).toNatClampNeg) &&& ((v2) ^^^ ((-1)))) = (0 : Int32)
      · rw [if_pos hc7] at hp
        refine e_if_ne_f f79_79 hc7 ?_
        refine e_aload_n f79_82 rfl ?_
        refine e_getR f79_83 (WF.t w 77 (by decide)) rfl (WF.r (q := 79) w 77 3 (by decide)) ?_
        refine e_iload f79_86 rfl ?_
        by_cases hg8 : (v5) < (0 : Int32) ∨ 12 ≤ (v5).toNatClampNeg
        · rw [if_pos hg8] at hp; cases hp
        rw [if_neg hg8] at hp
        refine e_iaload f79_88 (Or.inl (WF.t w 79 (by decide))) (WF.n w 79 (by decide)) hg8 ?_
        refine e_goto f79_89 ?_
        refine ex_weak (ls := [some (.ref (77)), some (.int (a0)), some (.int (v2)), some (.int (v3)), none, some (.int (v5))]) (le2_ok ⟨Or.inr rfl, Or.inr rfl, Or.inr rfl, Or.inr rfl, Or.inl rfl, Or.inr rfl, trivial⟩) ?_
        exact p79_j93_ok d F a0 (K2) ((p79_L57 F a0 K2 n)) (hK2) (ih) (h) (w) (v2) (v3) (v5) (hI (h) (79) (v5).toNatClampNeg) (v4) _ hp
      · rw [if_neg hc7] at hp
        refine e_if_ne_t f79_79 hc7 ?_
        refine e_iconst (v := 0) f79_92 (by decide) ?_
        refine ex_weak (ls := [some (.ref (77)), some (.int (a0)), some (.int (v2)), some (.int (v3)), none, some (.int (v5))]) (le2_ok ⟨Or.inr rfl, Or.inr rfl, Or.inr rfl, Or.inr rfl, Or.inl rfl, Or.inr rfl, trivial⟩) ?_
        exact p79_j93_ok d F a0 (K2) ((p79_L57 F a0 K2 n)) (hK2) (ih) (h) (w) (v2) (v3) (v5) (0) (v4) _ hp
    · rw [if_neg hc5] at hp
      refine e_icmp_ge_t f79_63 hc5 ?_
      refine e_aload_n f79_102 rfl ?_
      refine e_getR f79_103 (WF.t w 77 (by decide)) rfl (WF.r (q := 82) w 77 7 (by decide)) ?_
      refine e_iload_n f79_106 rfl ?_
      refine e_iload_n f79_107 rfl ?_
      by_cases hg9 : (v2) < (0 : Int32) ∨ 512 ≤ (v2).toNatClampNeg
      · rw [if_pos hg9] at hp; cases hp
      rw [if_neg hg9] at hp
      refine e_iastore f79_108 (WF.t w 82 (by decide)) (WF.n w 82 (by decide)) hg9 ?_
      refine e_aload_n f79_109 rfl ?_
      refine e_getR f79_110 (WF.t w 77 (by decide)) rfl (WF.r (q := 83) w 77 8 (by decide)) ?_
      refine e_iload_n f79_113 rfl ?_
      refine e_iload f79_114 rfl ?_
      by_cases hg10 : (v2) < (0 : Int32) ∨ 512 ≤ (v2).toNatClampNeg
      · rw [if_pos hg10] at hp; cases hp
      rw [if_neg hg10] at hp
      refine e_iastore f79_116 (WF.t w 83 (by decide)) (WF.n w 83 (by decide)) hg10 ?_
      refine e_iinc (ls2 := [some (.ref (77)), some (.int (a0)), some (.int ((v2) + 1)), some (.int (v3)), some (.int (v4)), some (.int (v5))]) f79_117 (by decide) rfl rfl ?_
      refine e_goto f79_120 ?_
      refine ex_weak (ls := [some (.ref (77)), some (.int (a0)), some (.int ((v2) + 1)), none, none, none]) (le2_ok ⟨Or.inr rfl, Or.inr rfl, Or.inr rfl, Or.inl rfl, Or.inl rfl, Or.inl rfl, trivial⟩) ?_
      exact hK2 (hsI (hsI (h) (82) (v2).toNatClampNeg (v3)) (83) (v2).toNatClampNeg (v4)) (w) ((v2) + 1) _ hp
set_option maxRecDepth 100000 in
set_option maxHeartbeats 4000000 in
theorem p79_L57_w (F : Nat) (a0 : Int32) (K2 : HS → Int32 → Option (HS)) (hK2 : ∀ (h : HS) (w : WF h) (u2 : Int32) (r : HS), K2 h u2 = some r → WF r) : ∀ (n : Nat) (h : HS) (w : WF h) (v2 : Int32) (v3 : Int32) (v4 : Int32) (v5 : Int32) (r : HS), p79_L57 F a0 K2 n h v2 v3 v4 v5 = some r → WF r := by
  intro n
  induction n with
  | zero => intro h w v2 v3 v4 v5 r hp; cases hp
  | succ n ih =>
    intro h w v2 v3 v4 v5 r hp
    unfold p79_L57 at hp
    by_cases hc5 : (v5) < ((hI (h) (77) 1) : Int32)
    · rw [if_pos hc5] at hp
      by_cases hg6 : (v5) < (0 : Int32) ∨ 12 ≤ (v5).toNatClampNeg
      · rw [if_pos hg6] at hp; cases hp
      rw [if_neg hg6] at hp
      by_cases hc7 : ((hI (h) (78) (v5).toNatClampNeg) &&& ((v2) ^^^ ((-1)))) = (0 : Int32)
      · rw [if_pos hc7] at hp
        by_cases hg8 : (v5) < (0 : Int32) ∨ 12 ≤ (v5).toNatClampNeg
        · rw [if_pos hg8] at hp; cases hp
        rw [if_neg hg8] at hp
        exact p79_j93_w F a0 (K2) ((p79_L57 F a0 K2 n)) (hK2) (ih) (h) (w) (v2) (v3) (v5) (hI (h) (79) (v5).toNatClampNeg) (v4) _ hp
      · rw [if_neg hc7] at hp
        exact p79_j93_w F a0 (K2) ((p79_L57 F a0 K2 n)) (hK2) (ih) (h) (w) (v2) (v3) (v5) (0) (v4) _ hp
    · rw [if_neg hc5] at hp
      by_cases hg9 : (v2) < (0 : Int32) ∨ 512 ≤ (v2).toNatClampNeg
      · rw [if_pos hg9] at hp; cases hp
      rw [if_neg hg9] at hp
      by_cases hg10 : (v2) < (0 : Int32) ∨ 512 ≤ (v2).toNatClampNeg
      · rw [if_pos hg10] at hp; cases hp
      rw [if_neg hg10] at hp
      exact hK2 (hsI (hsI (h) (82) (v2).toNatClampNeg (v3)) (83) (v2).toNatClampNeg (v4)) (w) ((v2) + 1) _ hp
set_option maxRecDepth 100000 in
set_option maxHeartbeats 4000000 in
theorem p79_L14_ok (d : Nat) (F : Nat) (a0 : Int32) (K2 : HS → Int32 → Option (HS)) (hK2 : ∀ (h : HS) (w : WF h) (u2 : Int32) (r : HS), K2 h u2 = some r → ex (d + 0) 79 (2, [some (.ref (77)), some (.int (a0)), some (.int (u2)), none, none, none], [], h) = some (none, r)) : ∀ (n : Nat) (h : HS) (w : WF h) (v2 : Int32) (v3 : Int32) (v4 : Int32) (r : HS), p79_L14 F a0 K2 n h v2 v3 v4 = some r → ex (d + 0) 79 (14, [some (.ref (77)), some (.int (a0)), some (.int (v2)), some (.int (v3)), some (.int (v4)), none], [], h) = some (none, r) := by
  intro n
  induction n with
  | zero => intro h w v2 v3 v4 r hp; cases hp
  | succ n ih =>
    intro h w v2 v3 v4 r hp
    unfold p79_L14 at hp
    refine e_iload f79_14 rfl ?_
    refine e_iload_n f79_16 rfl ?_
    by_cases hc2 : (v4) < ((a0) : Int32)
    · rw [if_pos hc2] at hp
      refine e_icmp_ge_f f79_17 hc2 ?_
      refine e_iload_n f79_20 rfl ?_
      refine e_iload_n f79_21 rfl ?_
      refine e_iload f79_22 rfl ?_
      refine e_iushr f79_24 ?_
      refine e_iconst (v := 1) f79_25 (by decide) ?_
      refine e_iand f79_26 ?_
      refine e_aload_n f79_27 rfl ?_
      refine e_getR f79_28 (WF.t w 77 (by decide)) rfl (WF.r (q := 33) w 77 0 (by decide)) ?_
      refine e_getR f79_31 (WF.t w 33 (by decide)) rfl (WF.r (q := 34) w 33 2 (by decide)) ?_
      refine e_aload_n f79_34 rfl ?_
      refine e_getR f79_35 (WF.t w 77 (by decide)) rfl (WF.r (q := 81) w 77 6 (by decide)) ?_
      refine e_iload f79_38 rfl ?_
      by_cases hg3 : (v4) < (0 : Int32) ∨ 9 ≤ (v4).toNatClampNeg
      · rw [if_pos hg3] at hp; cases hp
      rw [if_neg hg3] at hp
      refine e_iaload f79_40 (Or.inl (WF.t w 81 (by decide))) (WF.n w 81 (by decide)) hg3 ?_
      by_cases hg4 : (hI (h) (81) (v4).toNatClampNeg) < (0 : Int32) ∨ 20 ≤ (hI (h) (81) (v4).toNatClampNeg).toNatClampNeg
      · rw [if_pos hg4] at hp; cases hp
      rw [if_neg hg4] at hp
      refine e_iaload f79_41 (Or.inl (WF.t w 34 (by decide))) (WF.n w 34 (by decide)) hg4 ?_
      refine e_imul f79_42 ?_
      refine e_iadd f79_43 ?_
      refine e_istore_n (ls2 := [some (.ref (77)), some (.int (a0)), some (.int (v2)), some (.int ((v3) + (((((v2).toUInt32 >>> ((v4).toUInt32 &&& Int32.toUInt32 31)).toInt32) &&& (1)) * (hI (h) (34) (hI (h) (81) (v4).toNatClampNeg).toNatClampNeg)))), some (.int (v4)), none]) f79_44 (Nat.le_of_ble_eq_true rfl) rfl ?_
      refine e_iinc (ls2 := [some (.ref (77)), some (.int (a0)), some (.int (v2)), some (.int ((v3) + (((((v2).toUInt32 >>> ((v4).toUInt32 &&& Int32.toUInt32 31)).toInt32) &&& (1)) * (hI (h) (34) (hI (h) (81) (v4).toNatClampNeg).toNatClampNeg)))), some (.int ((v4) + 1)), none]) f79_45 (by decide) rfl rfl ?_
      refine e_goto f79_48 ?_
      refine ex_weak (ls := [some (.ref (77)), some (.int (a0)), some (.int (v2)), some (.int ((v3) + (((((v2).toUInt32 >>> ((v4).toUInt32 &&& Int32.toUInt32 31)).toInt32) &&& (1)) * (hI (h) (34) (hI (h) (81) (v4).toNatClampNeg).toNatClampNeg)))), some (.int ((v4) + 1)), none]) (le2_ok ⟨Or.inr rfl, Or.inr rfl, Or.inr rfl, Or.inr rfl, Or.inr rfl, Or.inl rfl, trivial⟩) ?_
      exact ih (h) (w) (v2) ((v3) + (((((v2).toUInt32 >>> ((v4).toUInt32 &&& Int32.toUInt32 31)).toInt32) &&& (1)) * (hI (h) (34) (hI (h) (81) (v4).toNatClampNeg).toNatClampNeg))) ((v4) + 1) _ hp
    · rw [if_neg hc2] at hp
      refine e_icmp_ge_t f79_17 hc2 ?_
      refine e_iconst (v := 0) f79_51 (by decide) ?_
      refine e_istore (ls2 := [some (.ref (77)), some (.int (a0)), some (.int (v2)), some (.int (v3)), some (.int (0)), none]) f79_52 (Nat.le_of_ble_eq_true rfl) rfl ?_
      refine e_iconst (v := 0) f79_54 (by decide) ?_
      refine e_istore (ls2 := [some (.ref (77)), some (.int (a0)), some (.int (v2)), some (.int (v3)), some (.int (0)), some (.int (0))]) f79_55 (Nat.le_of_ble_eq_true rfl) rfl ?_
      refine ex_weak (ls := [some (.ref (77)), some (.int (a0)), some (.int (v2)), some (.int (v3)), some (.int (0)), some (.int (0))]) (le2_ok ⟨Or.inr rfl, Or.inr rfl, Or.inr rfl, Or.inr rfl, Or.inr rfl, Or.inr rfl, trivial⟩) ?_
      exact p79_L57_ok d F a0 (K2) (hK2) F (h) (w) (v2) (v3) (0) (0) _ hp
set_option maxRecDepth 100000 in
set_option maxHeartbeats 4000000 in
theorem p79_L14_w (F : Nat) (a0 : Int32) (K2 : HS → Int32 → Option (HS)) (hK2 : ∀ (h : HS) (w : WF h) (u2 : Int32) (r : HS), K2 h u2 = some r → WF r) : ∀ (n : Nat) (h : HS) (w : WF h) (v2 : Int32) (v3 : Int32) (v4 : Int32) (r : HS), p79_L14 F a0 K2 n h v2 v3 v4 = some r → WF r := by
  intro n
  induction n with
  | zero => intro h w v2 v3 v4 r hp; cases hp
  | succ n ih =>
    intro h w v2 v3 v4 r hp
    unfold p79_L14 at hp
    by_cases hc2 : (v4) < ((a0) : Int32)
    · rw [if_pos hc2] at hp
      by_cases hg3 : (v4) < (0 : Int32) ∨ 9 ≤ (v4).toNatClampNeg
      · rw [if_pos hg3] at hp; cases hp
      rw [if_neg hg3] at hp
      by_cases hg4 : (hI (h) (81) (v4).toNatClampNeg) < (0 : Int32) ∨ 20 ≤ (hI (h) (81) (v4).toNatClampNeg).toNatClampNeg
      · rw [if_pos hg4] at hp; cases hp
      rw [if_neg hg4] at hp
      exact ih (h) (w) (v2) ((v3) + (((((v2).toUInt32 >>> ((v4).toUInt32 &&& Int32.toUInt32 31)).toInt32) &&& (1)) * (hI (h) (34) (hI (h) (81) (v4).toNatClampNeg).toNatClampNeg))) ((v4) + 1) _ hp
    · rw [if_neg hc2] at hp
      exact p79_L57_w F a0 (K2) (hK2) F (h) (w) (v2) (v3) (0) (0) _ hp
set_option maxRecDepth 100000 in
set_option maxHeartbeats 4000000 in
theorem p79_L2_ok (d : Nat) (F : Nat) (a0 : Int32) : ∀ (n : Nat) (h : HS) (w : WF h) (v2 : Int32) (r : HS), p79_L2 F a0 n h v2 = some r → ex (d + 0) 79 (2, [some (.ref (77)), some (.int (a0)), some (.int (v2)), none, none, none], [], h) = some (none, r) := by
  intro n
  induction n with
  | zero => intro h w v2 r hp; cases hp
  | succ n ih =>
    intro h w v2 r hp
    unfold p79_L2 at hp
    refine e_iload_n f79_2 rfl ?_
    refine e_iconst (v := 1) f79_3 (by decide) ?_
    refine e_iload_n f79_4 rfl ?_
    refine e_ishl f79_5 ?_
    by_cases hc1 : (v2) < (((1) <<< ((a0) &&& 31)) : Int32)
    · rw [if_pos hc1] at hp
      refine e_icmp_ge_f f79_6 hc1 ?_
      refine e_iconst (v := 0) f79_9 (by decide) ?_
      refine e_istore_n (ls2 := [some (.ref (77)), some (.int (a0)), some (.int (v2)), some (.int (0)), none, none]) f79_10 (Nat.le_of_ble_eq_true rfl) rfl ?_
      refine e_iconst (v := 0) f79_11 (by decide) ?_
      refine e_istore (ls2 := [some (.ref (77)), some (.int (a0)), some (.int (v2)), some (.int (0)), some (.int (0)), none]) f79_12 (Nat.le_of_ble_eq_true rfl) rfl ?_
      refine ex_weak (ls := [some (.ref (77)), some (.int (a0)), some (.int (v2)), some (.int (0)), some (.int (0)), none]) (le2_ok ⟨Or.inr rfl, Or.inr rfl, Or.inr rfl, Or.inr rfl, Or.inr rfl, Or.inl rfl, trivial⟩) ?_
      exact p79_L14_ok d F a0 ((p79_L2 F a0 n)) (ih) F (h) (w) (v2) (0) (0) _ hp
    · rw [if_neg hc1] at hp
      refine e_icmp_ge_t f79_6 hc1 ?_
      have hp := Option.some.inj hp
      subst hp
      exact e_return f79_123
set_option maxRecDepth 100000 in
set_option maxHeartbeats 4000000 in
theorem p79_L2_w (F : Nat) (a0 : Int32) : ∀ (n : Nat) (h : HS) (w : WF h) (v2 : Int32) (r : HS), p79_L2 F a0 n h v2 = some r → WF r := by
  intro n
  induction n with
  | zero => intro h w v2 r hp; cases hp
  | succ n ih =>
    intro h w v2 r hp
    unfold p79_L2 at hp
    by_cases hc1 : (v2) < (((1) <<< ((a0) &&& 31)) : Int32)
    · rw [if_pos hc1] at hp
      exact p79_L14_w F a0 ((p79_L2 F a0 n)) (ih) F (h) (w) (v2) (0) (0) _ hp
    · rw [if_neg hc1] at hp
      have hp := Option.some.inj hp
      subst hp
      exact (w)
set_option maxRecDepth 100000 in
set_option maxHeartbeats 4000000 in
theorem p79_ok (d : Nat) (F : Nat) (h : HS) (w : WF h) (a0 : Int32) (r : HS) (hp : p79 F h a0 = some r) : ex (d + 0) 79 (ent 79 [.ref (77), .int (a0)] h) = some (none, r) := by
  rw [show ent 79 [.ref (77), .int (a0)] h = (0, [some (.ref (77)), some (.int (a0)), none, none, none, none], [], h) from by  rfl]
  refine ex_weak (ls := [some (.ref (77)), some (.int (a0)), none, none, none, none]) (le2_ok ⟨Or.inr rfl, Or.inr rfl, Or.inr rfl, Or.inr rfl, Or.inr rfl, Or.inr rfl, trivial⟩) ?_
  unfold p79 at hp
  refine e_iconst (v := 0) f79_0 (by decide) ?_
  refine e_istore_n (ls2 := [some (.ref (77)), some (.int (a0)), some (.int (0)), none, none, none]) f79_1 (Nat.le_of_ble_eq_true rfl) rfl ?_
  refine ex_weak (ls := [some (.ref (77)), some (.int (a0)), some (.int (0)), none, none, none]) (le2_ok ⟨Or.inr rfl, Or.inr rfl, Or.inr rfl, Or.inl rfl, Or.inl rfl, Or.inl rfl, trivial⟩) ?_
  exact p79_L2_ok d F a0 F (h) (w) (0) _ hp
set_option maxRecDepth 100000 in
set_option maxHeartbeats 4000000 in
theorem p79_w (F : Nat) (h : HS) (w : WF h) (a0 : Int32) (r : HS) (hp : p79 F h a0 = some r) : WF r := by
  unfold p79 at hp
  exact p79_L2_w F a0 F (h) (w) (0) _ hp
theorem f80_0 : fetch 80 0 = some (.iload_n 1, 0, 0, 0) := rfl
theorem f80_1 : fetch 80 1 = some (.iconst 1, 0, 0, 0) := rfl
theorem f80_2 : fetch 80 2 = some (.iload_n 2, 0, 0, 0) := rfl
theorem f80_3 : fetch 80 3 = some (.ishl, 0, 0, 0) := rfl
theorem f80_4 : fetch 80 4 = some (.ior, 0, 0, 0) := rfl
theorem f80_5 : fetch 80 5 = some (.istore_n 3, 0, 0, 0) := rfl
theorem f80_6 : fetch 80 6 = some (.aload_n 0, 0, 0, 0) := rfl
theorem f80_7 : fetch 80 7 = some (.getfield 24, 7, 7, 2) := rfl
theorem f80_10 : fetch 80 10 = some (.iload_n 3, 0, 0, 0) := rfl
theorem f80_11 : fetch 80 11 = some (.iaload, 0, 0, 0) := rfl
theorem f80_12 : fetch 80 12 = some (.i2l, 0, 0, 0) := rfl
theorem f80_13 : fetch 80 13 = some (.aload_n 0, 0, 0, 0) := rfl
theorem f80_14 : fetch 80 14 = some (.getfield 27, 7, 8, 2) := rfl
theorem f80_17 : fetch 80 17 = some (.iload_n 3, 0, 0, 0) := rfl
theorem f80_18 : fetch 80 18 = some (.iaload, 0, 0, 0) := rfl
theorem f80_19 : fetch 80 19 = some (.aload_n 0, 0, 0, 0) := rfl
theorem f80_20 : fetch 80 20 = some (.getfield 27, 7, 8, 2) := rfl
theorem f80_23 : fetch 80 23 = some (.iload_n 1, 0, 0, 0) := rfl
theorem f80_24 : fetch 80 24 = some (.iaload, 0, 0, 0) := rfl
theorem f80_25 : fetch 80 25 = some (.isub, 0, 0, 0) := rfl
theorem f80_26 : fetch 80 26 = some (.i2l, 0, 0, 0) := rfl
theorem f80_27 : fetch 80 27 = some (.lmul, 0, 0, 0) := rfl
theorem f80_28 : fetch 80 28 = some (.aload_n 0, 0, 0, 0) := rfl
theorem f80_29 : fetch 80 29 = some (.getfield 30, 7, 9, 2) := rfl
theorem f80_32 : fetch 80 32 = some (.iload_n 3, 0, 0, 0) := rfl
theorem f80_33 : fetch 80 33 = some (.laload, 0, 0, 0) := rfl
theorem f80_34 : fetch 80 34 = some (.ladd, 0, 0, 0) := rfl
theorem f80_35 : fetch 80 35 = some (.lreturn, 0, 0, 0) := rfl
set_option maxRecDepth 100000 in
set_option maxHeartbeats 4000000 in
theorem p80_ok (d : Nat) (h : HS) (w : WF h) (a0 : Int32) (a1 : Int32) (r : Int64) (hp : p80 h a0 a1 = some r) : ex (d + 0) 80 (ent 80 [.ref (77), .int (a0), .int (a1)] h) = some (some (.long (r)), h) := by
  rw [show ent 80 [.ref (77), .int (a0), .int (a1)] h = (0, [some (.ref (77)), some (.int (a0)), some (.int (a1)), none], [], h) from by  rfl]
  refine ex_weak (ls := [some (.ref (77)), some (.int (a0)), some (.int (a1)), none]) (le2_ok ⟨Or.inr rfl, Or.inr rfl, Or.inr rfl, Or.inr rfl, trivial⟩) ?_
  unfold p80 at hp
  refine e_iload_n f80_0 rfl ?_
  refine e_iconst (v := 1) f80_1 (by decide) ?_
  refine e_iload_n f80_2 rfl ?_
  refine e_ishl f80_3 ?_
  refine e_ior f80_4 ?_
  refine e_istore_n (ls2 := [some (.ref (77)), some (.int (a0)), some (.int (a1)), some (.int ((a0) ||| ((1) <<< ((a1) &&& 31))))]) f80_5 (Nat.le_of_ble_eq_true rfl) rfl ?_
  refine e_aload_n f80_6 rfl ?_
  refine e_getR f80_7 (WF.t w 77 (by decide)) rfl (WF.r (q := 82) w 77 7 (by decide)) ?_
  refine e_iload_n f80_10 rfl ?_
  by_cases hg1 : ((a0) ||| ((1) <<< ((a1) &&& 31))) < (0 : Int32) ∨ 512 ≤ ((a0) ||| ((1) <<< ((a1) &&& 31))).toNatClampNeg
  · rw [if_pos hg1] at hp; cases hp
  rw [if_neg hg1] at hp
  refine e_iaload f80_11 (Or.inl (WF.t w 82 (by decide))) (WF.n w 82 (by decide)) hg1 ?_
  refine e_i2l f80_12 ?_
  refine e_aload_n f80_13 rfl ?_
  refine e_getR f80_14 (WF.t w 77 (by decide)) rfl (WF.r (q := 83) w 77 8 (by decide)) ?_
  refine e_iload_n f80_17 rfl ?_
  by_cases hg2 : ((a0) ||| ((1) <<< ((a1) &&& 31))) < (0 : Int32) ∨ 512 ≤ ((a0) ||| ((1) <<< ((a1) &&& 31))).toNatClampNeg
  · rw [if_pos hg2] at hp; cases hp
  rw [if_neg hg2] at hp
  refine e_iaload f80_18 (Or.inl (WF.t w 83 (by decide))) (WF.n w 83 (by decide)) hg2 ?_
  refine e_aload_n f80_19 rfl ?_
  refine e_getR f80_20 (WF.t w 77 (by decide)) rfl (WF.r (q := 83) w 77 8 (by decide)) ?_
  refine e_iload_n f80_23 rfl ?_
  by_cases hg3 : (a0) < (0 : Int32) ∨ 512 ≤ (a0).toNatClampNeg
  · rw [if_pos hg3] at hp; cases hp
  rw [if_neg hg3] at hp
  refine e_iaload f80_24 (Or.inl (WF.t w 83 (by decide))) (WF.n w 83 (by decide)) hg3 ?_
  refine e_isub f80_25 ?_
  refine e_i2l f80_26 ?_
  refine e_lmul f80_27 ?_
  refine e_aload_n f80_28 rfl ?_
  refine e_getR f80_29 (WF.t w 77 (by decide)) rfl (WF.r (q := 84) w 77 9 (by decide)) ?_
  refine e_iload_n f80_32 rfl ?_
  by_cases hg4 : ((a0) ||| ((1) <<< ((a1) &&& 31))) < (0 : Int32) ∨ 512 ≤ ((a0) ||| ((1) <<< ((a1) &&& 31))).toNatClampNeg
  · rw [if_pos hg4] at hp; cases hp
  rw [if_neg hg4] at hp
  refine e_laload f80_33 (WF.t w 84 (by decide)) (WF.n w 84 (by decide)) hg4 ?_
  refine e_ladd f80_34 ?_
  have hp := Option.some.inj hp
  subst hp
  exact e_lreturn f80_35
theorem f81_0 : fetch 81 0 = some (.ldc2_w 57, 0, 0, -1) := rfl
theorem f81_3 : fetch 81 3 = some (.lstore_n 3, 0, 0, 0) := rfl
theorem f81_4 : fetch 81 4 = some (.iconst 0, 0, 0, 0) := rfl
theorem f81_5 : fetch 81 5 = some (.istore 5, 0, 0, 0) := rfl
theorem f81_7 : fetch 81 7 = some (.iload 5, 0, 0, 0) := rfl
theorem f81_9 : fetch 81 9 = some (.iload_n 1, 0, 0, 0) := rfl
theorem f81_10 : fetch 81 10 = some (.if_icmp .ge 47, 57, 0, 0) := rfl
theorem f81_13 : fetch 81 13 = some (.iload_n 2, 0, 0, 0) := rfl
theorem f81_14 : fetch 81 14 = some (.iload 5, 0, 0, 0) := rfl
theorem f81_16 : fetch 81 16 = some (.iushr, 0, 0, 0) := rfl
theorem f81_17 : fetch 81 17 = some (.iconst 1, 0, 0, 0) := rfl
theorem f81_18 : fetch 81 18 = some (.iand, 0, 0, 0) := rfl
theorem f81_19 : fetch 81 19 = some (.ifCond .ne 32, 51, 0, 0) := rfl
theorem f81_22 : fetch 81 22 = some (.aload_n 0, 0, 0, 0) := rfl
theorem f81_23 : fetch 81 23 = some (.iload_n 2, 0, 0, 0) := rfl
theorem f81_24 : fetch 81 24 = some (.iload 5, 0, 0, 0) := rfl
theorem f81_26 : fetch 81 26 = some (.invokevirtual 80, 80, 2, 0) := rfl
theorem f81_29 : fetch 81 29 = some (.lstore 6, 0, 0, 0) := rfl
theorem f81_31 : fetch 81 31 = some (.lload_n 3, 0, 0, 0) := rfl
theorem f81_32 : fetch 81 32 = some (.ldc2_w 57, 0, 0, -1) := rfl
theorem f81_35 : fetch 81 35 = some (.lcmp, 0, 0, 0) := rfl
theorem f81_36 : fetch 81 36 = some (.ifCond .ne 8, 44, 0, 0) := rfl
theorem f81_39 : fetch 81 39 = some (.lload 6, 0, 0, 0) := rfl
theorem f81_41 : fetch 81 41 = some (.goto 9, 50, 0, 0) := rfl
theorem f81_44 : fetch 81 44 = some (.lload_n 3, 0, 0, 0) := rfl
theorem f81_45 : fetch 81 45 = some (.lload 6, 0, 0, 0) := rfl
theorem f81_47 : fetch 81 47 = some (.invokestatic 83, 0, 2, 11) := rfl
theorem f81_50 : fetch 81 50 = some (.lstore_n 3, 0, 0, 0) := rfl
theorem f81_51 : fetch 81 51 = some (.iinc 5 1, 0, 0, 0) := rfl
theorem f81_54 : fetch 81 54 = some (.goto (-47), 7, 0, 0) := rfl
theorem f81_57 : fetch 81 57 = some (.lload_n 3, 0, 0, 0) := rfl
theorem f81_58 : fetch 81 58 = some (.ldc2_w 57, 0, 0, -1) := rfl
theorem f81_61 : fetch 81 61 = some (.lcmp, 0, 0, 0) := rfl
theorem f81_62 : fetch 81 62 = some (.ifCond .ne 7, 69, 0, 0) := rfl
theorem f81_65 : fetch 81 65 = some (.lconst 0, 0, 0, 0) := rfl
theorem f81_66 : fetch 81 66 = some (.goto 4, 70, 0, 0) := rfl
theorem f81_69 : fetch 81 69 = some (.lload_n 3, 0, 0, 0) := rfl
theorem f81_70 : fetch 81 70 = some (.lreturn, 0, 0, 0) := rfl
set_option maxRecDepth 100000 in
set_option maxHeartbeats 4000000 in
theorem p81_j51_ok (d : Nat) (F : Nat) (a0 : Int32) (a1 : Int32) (K7 : Int64 → Int32 → Option (Int64)) (h : HS) (w : WF h) (hK7 : ∀ (u3 : Int64) (u5 : Int32) (r : Int64), K7 u3 u5 = some r → ex (d + 1) 81 (7, [some (.ref (77)), some (.int (a0)), some (.int (a1)), some (.long (u3)), none, some (.int (u5)), none, none], [], h) = some (some (.long (r)), h)) (v3 : Int64) (v5 : Int32) (r : Int64) (hp : p81_j51 F a0 a1 K7 h v3 v5 = some r) : ex (d + 1) 81 (51, [some (.ref (77)), some (.int (a0)), some (.int (a1)), some (.long (v3)), none, some (.int (v5)), none, none], [], h) = some (some (.long (r)), h) := by
  unfold p81_j51 at hp
  refine e_iinc (ls2 := [some (.ref (77)), some (.int (a0)), some (.int (a1)), some (.long (v3)), none, some (.int ((v5) + 1)), none, none]) f81_51 (by decide) rfl rfl ?_
  refine e_goto f81_54 ?_
  refine ex_weak (ls := [some (.ref (77)), some (.int (a0)), some (.int (a1)), some (.long (v3)), none, some (.int ((v5) + 1)), none, none]) (le2_ok ⟨Or.inr rfl, Or.inr rfl, Or.inr rfl, Or.inr rfl, Or.inl rfl, Or.inr rfl, Or.inl rfl, Or.inl rfl, trivial⟩) ?_
  exact hK7 (v3) ((v5) + 1) _ hp
set_option maxRecDepth 100000 in
set_option maxHeartbeats 4000000 in
theorem p81_j50_ok (d : Nat) (F : Nat) (a0 : Int32) (a1 : Int32) (K7 : Int64 → Int32 → Option (Int64)) (h : HS) (w : WF h) (hK7 : ∀ (u3 : Int64) (u5 : Int32) (r : Int64), K7 u3 u5 = some r → ex (d + 1) 81 (7, [some (.ref (77)), some (.int (a0)), some (.int (a1)), some (.long (u3)), none, some (.int (u5)), none, none], [], h) = some (some (.long (r)), h)) (v5 : Int32) (s0 : Int64) (r : Int64) (hp : p81_j50 F a0 a1 K7 h v5 s0 = some r) : ex (d + 1) 81 (50, [some (.ref (77)), some (.int (a0)), some (.int (a1)), none, none, some (.int (v5)), none, none], [.long (s0)], h) = some (some (.long (r)), h) := by
  unfold p81_j50 at hp
  refine e_lstore_n (ls2 := [some (.ref (77)), some (.int (a0)), some (.int (a1)), some (.long (s0)), none, some (.int (v5)), none, none]) f81_50 (Nat.le_of_ble_eq_true rfl) rfl ?_
  refine ex_weak (ls := [some (.ref (77)), some (.int (a0)), some (.int (a1)), some (.long (s0)), none, some (.int (v5)), none, none]) (le2_ok ⟨Or.inr rfl, Or.inr rfl, Or.inr rfl, Or.inr rfl, Or.inl rfl, Or.inr rfl, Or.inl rfl, Or.inl rfl, trivial⟩) ?_
  exact p81_j51_ok d F a0 a1 (K7) (h) (w) (hK7) (s0) (v5) _ hp
set_option maxRecDepth 100000 in
set_option maxHeartbeats 4000000 in
theorem p81_L7_ok (d : Nat) (F : Nat) (a0 : Int32) (a1 : Int32) (h : HS) (w : WF h)  : ∀ (n : Nat) (v3 : Int64) (v5 : Int32) (r : Int64), p81_L7 F a0 a1 n h v3 v5 = some r → ex (d + 1) 81 (7, [some (.ref (77)), some (.int (a0)), some (.int (a1)), some (.long (v3)), none, some (.int (v5)), none, none], [], h) = some (some (.long (r)), h) := by
  intro n
  induction n with
  | zero => intro v3 v5 r hp; cases hp
  | succ n ih =>
    intro v3 v5 r hp
    unfold p81_L7 at hp
    refine e_iload f81_7 rfl ?_
    refine e_iload_n f81_9 rfl ?_
    by_cases hc1 : (v5) < ((a0) : Int32)
    · rw [if_pos hc1] at hp
      refine e_icmp_ge_f f81_10 hc1 ?_
      refine e_iload_n f81_13 rfl ?_
      refine e_iload f81_14 rfl ?_
      refine e_iushr f81_16 ?_
      refine e_iconst (v := 1) f81_17 (by decide) ?_
      refine e_iand f81_18 ?_
      by_cases hc2 : ((((a1).toUInt32 >>> ((v5).toUInt32 &&& Int32.toUInt32 31)).toInt32) &&& (1)) = (0 : Int32)
      · rw [if_pos hc2] at hp
        refine e_if_ne_f f81_19 hc2 ?_
        refine e_aload_n f81_22 rfl ?_
        refine e_iload_n f81_23 rfl ?_
        refine e_iload f81_24 rfl ?_
        obtain ⟨r3, hr4, hp⟩ := bind_some hp
        try dsimp only at hp
        refine e_callV (st := []) (o := 77) (as := [.int (a1), .int (v5)]) f81_26 (by decide) rfl rfl (Nat.le_of_ble_eq_true rfl) (WF.t w 77 (by decide)) (Nat.le_of_ble_eq_true rfl) (p80_ok d (h) w (a1) (v5) r3 hr4) ?_
        show ex _ 81 (29, [some (.ref (77)), some (.int (a0)), some (.int (a1)), some (.long (v3)), none, some (.int (v5)), none, none], [.long (r3)], h) = _
        refine e_lstore (ls2 := [some (.ref (77)), some (.int (a0)), some (.int (a1)), some (.long (v3)), none, some (.int (v5)), some (.long (r3)), none]) f81_29 (Nat.le_of_ble_eq_true rfl) rfl ?_
        refine e_lload_n f81_31 rfl ?_
        refine e_ldc2 (v := -1) f81_32 (by decide) ?_
        refine e_lcmp f81_35 ?_
        by_cases hc5 : (lg_cmp (v3) ((-1 : Int64))) = (0 : Int32)
        · rw [if_pos hc5] at hp
          refine e_if_ne_f f81_36 hc5 ?_
          refine e_lload f81_39 rfl ?_
          refine e_goto f81_41 ?_
          refine ex_weak (ls := [some (.ref (77)), some (.int (a0)), some (.int (a1)), none, none, some (.int (v5)), none, none]) (le2_ok ⟨Or.inr rfl, Or.inr rfl, Or.inr rfl, Or.inl rfl, Or.inl rfl, Or.inr rfl, Or.inl rfl, Or.inl rfl, trivial⟩) ?_
          exact p81_j50_ok d F a0 a1 ((p81_L7 F a0 a1 n h)) (h) (w) (ih) (v5) (r3) _ hp
        · rw [if_neg hc5] at hp
          refine e_if_ne_t f81_36 hc5 ?_
          refine e_lload_n f81_44 rfl ?_
          refine e_lload f81_45 rfl ?_
          refine e_minL f81_47 rfl (Nat.le_of_ble_eq_true rfl) ?_
          refine ex_weak (ls := [some (.ref (77)), some (.int (a0)), some (.int (a1)), none, none, some (.int (v5)), none, none]) (le2_ok ⟨Or.inr rfl, Or.inr rfl, Or.inr rfl, Or.inl rfl, Or.inl rfl, Or.inr rfl, Or.inl rfl, Or.inl rfl, trivial⟩) ?_
          exact p81_j50_ok d F a0 a1 ((p81_L7 F a0 a1 n h)) (h) (w) (ih) (v5) (if (r3) < (v3) then (r3) else (v3)) _ hp
      · rw [if_neg hc2] at hp
        refine e_if_ne_t f81_19 hc2 ?_
        refine ex_weak (ls := [some (.ref (77)), some (.int (a0)), some (.int (a1)), some (.long (v3)), none, some (.int (v5)), none, none]) (le2_ok ⟨Or.inr rfl, Or.inr rfl, Or.inr rfl, Or.inr rfl, Or.inl rfl, Or.inr rfl, Or.inl rfl, Or.inl rfl, trivial⟩) ?_
        exact p81_j51_ok d F a0 a1 ((p81_L7 F a0 a1 n h)) (h) (w) (ih) (v3) (v5) _ hp
    · rw [if_neg hc1] at hp
      refine e_icmp_ge_t f81_10 hc1 ?_
      refine e_lload_n f81_57 rfl ?_
      refine e_ldc2 (v := -1) f81_58 (by decide) ?_
      refine e_lcmp f81_61 ?_
      by_cases hc6 : (lg_cmp (v3) ((-1 : Int64))) = (0 : Int32)
      · rw [if_pos hc6] at hp
        refine e_if_ne_f f81_62 hc6 ?_
        refine e_lconst (v := 0) f81_65 (by decide) ?_
        refine e_goto f81_66 ?_
        have hp := Option.some.inj hp
        subst hp
        exact e_lreturn f81_70
      · rw [if_neg hc6] at hp
        refine e_if_ne_t f81_62 hc6 ?_
        refine e_lload_n f81_69 rfl ?_
        have hp := Option.some.inj hp
        subst hp
        exact e_lreturn f81_70
set_option maxRecDepth 100000 in
set_option maxHeartbeats 4000000 in
theorem p81_ok (d : Nat) (F : Nat) (h : HS) (w : WF h) (a0 : Int32) (a1 : Int32) (r : Int64) (hp : p81 F h a0 a1 = some r) : ex (d + 1) 81 (ent 81 [.ref (77), .int (a0), .int (a1)] h) = some (some (.long (r)), h) := by
  rw [show ent 81 [.ref (77), .int (a0), .int (a1)] h = (0, [some (.ref (77)), some (.int (a0)), some (.int (a1)), none, none, none, none, none], [], h) from by  rfl]
  refine ex_weak (ls := [some (.ref (77)), some (.int (a0)), some (.int (a1)), none, none, none, none, none]) (le2_ok ⟨Or.inr rfl, Or.inr rfl, Or.inr rfl, Or.inr rfl, Or.inr rfl, Or.inr rfl, Or.inr rfl, Or.inr rfl, trivial⟩) ?_
  unfold p81 at hp
  refine e_ldc2 (v := -1) f81_0 (by decide) ?_
  refine e_lstore_n (ls2 := [some (.ref (77)), some (.int (a0)), some (.int (a1)), some (.long ((-1 : Int64))), none, none, none, none]) f81_3 (Nat.le_of_ble_eq_true rfl) rfl ?_
  refine e_iconst (v := 0) f81_4 (by decide) ?_
  refine e_istore (ls2 := [some (.ref (77)), some (.int (a0)), some (.int (a1)), some (.long ((-1 : Int64))), none, some (.int (0)), none, none]) f81_5 (Nat.le_of_ble_eq_true rfl) rfl ?_
  refine ex_weak (ls := [some (.ref (77)), some (.int (a0)), some (.int (a1)), some (.long ((-1 : Int64))), none, some (.int (0)), none, none]) (le2_ok ⟨Or.inr rfl, Or.inr rfl, Or.inr rfl, Or.inr rfl, Or.inl rfl, Or.inr rfl, Or.inl rfl, Or.inl rfl, trivial⟩) ?_
  exact p81_L7_ok d F a0 a1 (h) (w) F ((-1 : Int64)) (0) _ hp
theorem f82_0 : fetch 82 0 = some (.iconst 0, 0, 0, 0) := rfl
theorem f82_1 : fetch 82 1 = some (.istore_n 2, 0, 0, 0) := rfl
theorem f82_2 : fetch 82 2 = some (.iconst 0, 0, 0, 0) := rfl
theorem f82_3 : fetch 82 3 = some (.istore_n 3, 0, 0, 0) := rfl
theorem f82_4 : fetch 82 4 = some (.iload_n 3, 0, 0, 0) := rfl
theorem f82_5 : fetch 82 5 = some (.iload_n 1, 0, 0, 0) := rfl
theorem f82_6 : fetch 82 6 = some (.if_icmp .ge 106, 112, 0, 0) := rfl
theorem f82_9 : fetch 82 9 = some (.iconst (-1), 0, 0, 0) := rfl
theorem f82_10 : fetch 82 10 = some (.istore 4, 0, 0, 0) := rfl
theorem f82_12 : fetch 82 12 = some (.iconst 0, 0, 0, 0) := rfl
theorem f82_13 : fetch 82 13 = some (.istore 5, 0, 0, 0) := rfl
theorem f82_15 : fetch 82 15 = some (.iload 5, 0, 0, 0) := rfl
theorem f82_17 : fetch 82 17 = some (.iload_n 1, 0, 0, 0) := rfl
theorem f82_18 : fetch 82 18 = some (.if_icmp .ge 62, 80, 0, 0) := rfl
theorem f82_21 : fetch 82 21 = some (.iload_n 2, 0, 0, 0) := rfl
theorem f82_22 : fetch 82 22 = some (.iload 5, 0, 0, 0) := rfl
theorem f82_24 : fetch 82 24 = some (.iushr, 0, 0, 0) := rfl
theorem f82_25 : fetch 82 25 = some (.iconst 1, 0, 0, 0) := rfl
theorem f82_26 : fetch 82 26 = some (.iand, 0, 0, 0) := rfl
theorem f82_27 : fetch 82 27 = some (.ifCond .ne 47, 74, 0, 0) := rfl
theorem f82_30 : fetch 82 30 = some (.aload_n 0, 0, 0, 0) := rfl
theorem f82_31 : fetch 82 31 = some (.iload_n 2, 0, 0, 0) := rfl
theorem f82_32 : fetch 82 32 = some (.iload 5, 0, 0, 0) := rfl
theorem f82_34 : fetch 82 34 = some (.invokevirtual 80, 80, 2, 0) := rfl
theorem f82_37 : fetch 82 37 = some (.aload_n 0, 0, 0, 0) := rfl
theorem f82_38 : fetch 82 38 = some (.getfield 30, 7, 9, 2) := rfl
theorem f82_41 : fetch 82 41 = some (.iload_n 2, 0, 0, 0) := rfl
theorem f82_42 : fetch 82 42 = some (.laload, 0, 0, 0) := rfl
theorem f82_43 : fetch 82 43 = some (.lcmp, 0, 0, 0) := rfl
theorem f82_44 : fetch 82 44 = some (.ifCond .ne 30, 74, 0, 0) := rfl
theorem f82_47 : fetch 82 47 = some (.iload 4, 0, 0, 0) := rfl
theorem f82_49 : fetch 82 49 = some (.iconst (-1), 0, 0, 0) := rfl
theorem f82_50 : fetch 82 50 = some (.if_icmp .eq 20, 70, 0, 0) := rfl
theorem f82_53 : fetch 82 53 = some (.aload_n 0, 0, 0, 0) := rfl
theorem f82_54 : fetch 82 54 = some (.getfield 21, 7, 6, 2) := rfl
theorem f82_57 : fetch 82 57 = some (.iload 5, 0, 0, 0) := rfl
theorem f82_59 : fetch 82 59 = some (.iaload, 0, 0, 0) := rfl
theorem f82_60 : fetch 82 60 = some (.aload_n 0, 0, 0, 0) := rfl
theorem f82_61 : fetch 82 61 = some (.getfield 21, 7, 6, 2) := rfl
theorem f82_64 : fetch 82 64 = some (.iload 4, 0, 0, 0) := rfl
theorem f82_66 : fetch 82 66 = some (.iaload, 0, 0, 0) := rfl
theorem f82_67 : fetch 82 67 = some (.if_icmp .ge 7, 74, 0, 0) := rfl
theorem f82_70 : fetch 82 70 = some (.iload 5, 0, 0, 0) := rfl
theorem f82_72 : fetch 82 72 = some (.istore 4, 0, 0, 0) := rfl
theorem f82_74 : fetch 82 74 = some (.iinc 5 1, 0, 0, 0) := rfl
theorem f82_77 : fetch 82 77 = some (.goto (-62), 15, 0, 0) := rfl
theorem f82_80 : fetch 82 80 = some (.iload 4, 0, 0, 0) := rfl
theorem f82_82 : fetch 82 82 = some (.iconst (-1), 0, 0, 0) := rfl
theorem f82_83 : fetch 82 83 = some (.if_icmp .eq 23, 106, 0, 0) := rfl
theorem f82_86 : fetch 82 86 = some (.aload_n 0, 0, 0, 0) := rfl
theorem f82_87 : fetch 82 87 = some (.getfield 18, 7, 5, 2) := rfl
theorem f82_90 : fetch 82 90 = some (.iload_n 3, 0, 0, 0) := rfl
theorem f82_91 : fetch 82 91 = some (.aload_n 0, 0, 0, 0) := rfl
theorem f82_92 : fetch 82 92 = some (.getfield 21, 7, 6, 2) := rfl
theorem f82_95 : fetch 82 95 = some (.iload 4, 0, 0, 0) := rfl
theorem f82_97 : fetch 82 97 = some (.iaload, 0, 0, 0) := rfl
theorem f82_98 : fetch 82 98 = some (.iastore, 0, 0, 0) := rfl
theorem f82_99 : fetch 82 99 = some (.iload_n 2, 0, 0, 0) := rfl
theorem f82_100 : fetch 82 100 = some (.iconst 1, 0, 0, 0) := rfl
theorem f82_101 : fetch 82 101 = some (.iload 4, 0, 0, 0) := rfl
theorem f82_103 : fetch 82 103 = some (.ishl, 0, 0, 0) := rfl
theorem f82_104 : fetch 82 104 = some (.ior, 0, 0, 0) := rfl
theorem f82_105 : fetch 82 105 = some (.istore_n 2, 0, 0, 0) := rfl
theorem f82_106 : fetch 82 106 = some (.iinc 3 1, 0, 0, 0) := rfl
theorem f82_109 : fetch 82 109 = some (.goto (-105), 4, 0, 0) := rfl
theorem f82_112 : fetch 82 112 = some (.return_, 0, 0, 0) := rfl
set_option maxRecDepth 100000 in
set_option maxHeartbeats 4000000 in
theorem p82_j106_ok (d : Nat) (F : Nat) (a0 : Int32) (K4 : HS → Int32 → Int32 → Option (HS)) (hK4 : ∀ (h : HS) (w : WF h) (u2 : Int32) (u3 : Int32) (r : HS), K4 h u2 u3 = some r → ex (d + 1) 82 (4, [some (.ref (77)), some (.int (a0)), some (.int (u2)), some (.int (u3)), none, none], [], h) = some (none, r)) (h : HS) (w : WF h) (v2 : Int32) (v3 : Int32) (r : HS) (hp : p82_j106 F a0 K4 h v2 v3 = some r) : ex (d + 1) 82 (106, [some (.ref (77)), some (.int (a0)), some (.int (v2)), some (.int (v3)), none, none], [], h) = some (none, r) := by
  unfold p82_j106 at hp
  refine e_iinc (ls2 := [some (.ref (77)), some (.int (a0)), some (.int (v2)), some (.int ((v3) + 1)), none, none]) f82_106 (by decide) rfl rfl ?_
  refine e_goto f82_109 ?_
  refine ex_weak (ls := [some (.ref (77)), some (.int (a0)), some (.int (v2)), some (.int ((v3) + 1)), none, none]) (le2_ok ⟨Or.inr rfl, Or.inr rfl, Or.inr rfl, Or.inr rfl, Or.inl rfl, Or.inl rfl, trivial⟩) ?_
  exact hK4 (h) (w) (v2) ((v3) + 1) _ hp
set_option maxRecDepth 100000 in
set_option maxHeartbeats 4000000 in
theorem p82_j106_w (F : Nat) (a0 : Int32) (K4 : HS → Int32 → Int32 → Option (HS)) (hK4 : ∀ (h : HS) (w : WF h) (u2 : Int32) (u3 : Int32) (r : HS), K4 h u2 u3 = some r → WF r) (h : HS) (w : WF h) (v2 : Int32) (v3 : Int32) (r : HS) (hp : p82_j106 F a0 K4 h v2 v3 = some r) : WF r := by
  unfold p82_j106 at hp
  exact hK4 (h) (w) (v2) ((v3) + 1) _ hp
set_option maxRecDepth 100000 in
set_option maxHeartbeats 4000000 in
theorem p82_j74_ok (d : Nat) (F : Nat) (a0 : Int32) (K4 : HS → Int32 → Int32 → Option (HS)) (K15 : HS → Int32 → Int32 → Int32 → Int32 → Option (HS)) (hK4 : ∀ (h : HS) (w : WF h) (u2 : Int32) (u3 : Int32) (r : HS), K4 h u2 u3 = some r → ex (d + 1) 82 (4, [some (.ref (77)), some (.int (a0)), some (.int (u2)), some (.int (u3)), none, none], [], h) = some (none, r)) (hK15 : ∀ (h : HS) (w : WF h) (u2 : Int32) (u3 : Int32) (u4 : Int32) (u5 : Int32) (r : HS), K15 h u2 u3 u4 u5 = some r → ex (d + 1) 82 (15, [some (.ref (77)), some (.int (a0)), some (.int (u2)), some (.int (u3)), some (.int (u4)), some (.int (u5))], [], h) = some (none, r)) (h : HS) (w : WF h) (v2 : Int32) (v3 : Int32) (v4 : Int32) (v5 : Int32) (r : HS) (hp : p82_j74 F a0 K4 K15 h v2 v3 v4 v5 = some r) : ex (d + 1) 82 (74, [some (.ref (77)), some (.int (a0)), some (.int (v2)), some (.int (v3)), some (.int (v4)), some (.int (v5))], [], h) = some (none, r) := by
  unfold p82_j74 at hp
  refine e_iinc (ls2 := [some (.ref (77)), some (.int (a0)), some (.int (v2)), some (.int (v3)), some (.int (v4)), some (.int ((v5) + 1))]) f82_74 (by decide) rfl rfl ?_
  refine e_goto f82_77 ?_
  refine ex_weak (ls := [some (.ref (77)), some (.int (a0)), some (.int (v2)), some (.int (v3)), some (.int (v4)), some (.int ((v5) + 1))]) (le2_ok ⟨Or.inr rfl, Or.inr rfl, Or.inr rfl, Or.inr rfl, Or.inr rfl, Or.inr rfl, trivial⟩) ?_
  exact hK15 (h) (w) (v2) (v3) (v4) ((v5) + 1) _ hp
set_option maxRecDepth 100000 in
set_option maxHeartbeats 4000000 in
theorem p82_j74_w (F : Nat) (a0 : Int32) (K4 : HS → Int32 → Int32 → Option (HS)) (K15 : HS → Int32 → Int32 → Int32 → Int32 → Option (HS)) (hK4 : ∀ (h : HS) (w : WF h) (u2 : Int32) (u3 : Int32) (r : HS), K4 h u2 u3 = some r → WF r) (hK15 : ∀ (h : HS) (w : WF h) (u2 : Int32) (u3 : Int32) (u4 : Int32) (u5 : Int32) (r : HS), K15 h u2 u3 u4 u5 = some r → WF r) (h : HS) (w : WF h) (v2 : Int32) (v3 : Int32) (v4 : Int32) (v5 : Int32) (r : HS) (hp : p82_j74 F a0 K4 K15 h v2 v3 v4 v5 = some r) : WF r := by
  unfold p82_j74 at hp
  exact hK15 (h) (w) (v2) (v3) (v4) ((v5) + 1) _ hp
set_option maxRecDepth 100000 in
set_option maxHeartbeats 4000000 in
theorem p82_j70_ok (d : Nat) (F : Nat) (a0 : Int32) (K4 : HS → Int32 → Int32 → Option (HS)) (K15 : HS → Int32 → Int32 → Int32 → Int32 → Option (HS)) (hK4 : ∀ (h : HS) (w : WF h) (u2 : Int32) (u3 : Int32) (r : HS), K4 h u2 u3 = some r → ex (d + 1) 82 (4, [some (.ref (77)), some (.int (a0)), some (.int (u2)), some (.int (u3)), none, none], [], h) = some (none, r)) (hK15 : ∀ (h : HS) (w : WF h) (u2 : Int32) (u3 : Int32) (u4 : Int32) (u5 : Int32) (r : HS), K15 h u2 u3 u4 u5 = some r → ex (d + 1) 82 (15, [some (.ref (77)), some (.int (a0)), some (.int (u2)), some (.int (u3)), some (.int (u4)), some (.int (u5))], [], h) = some (none, r)) (h : HS) (w : WF h) (v2 : Int32) (v3 : Int32) (v5 : Int32) (r : HS) (hp : p82_j70 F a0 K4 K15 h v2 v3 v5 = some r) : ex (d + 1) 82 (70, [some (.ref (77)), some (.int (a0)), some (.int (v2)), some (.int (v3)), none, some (.int (v5))], [], h) = some (none, r) := by
  unfold p82_j70 at hp
  refine e_iload f82_70 rfl ?_
  refine e_istore (ls2 := [some (.ref (77)), some (.int (a0)), some (.int (v2)), some (.int (v3)), some (.int (v5)), some (.int (v5))]) f82_72 (Nat.le_of_ble_eq_true rfl) rfl ?_
  refine ex_weak (ls := [some (.ref (77)), some (.int (a0)), some (.int (v2)), some (.int (v3)), some (.int (v5)), some (.int (v5))]) (le2_ok ⟨Or.inr rfl, Or.inr rfl, Or.inr rfl, Or.inr rfl, Or.inr rfl, Or.inr rfl, trivial⟩) ?_
  exact p82_j74_ok d F a0 (K4) (K15) (hK4) (hK15) (h) (w) (v2) (v3) (v5) (v5) _ hp
set_option maxRecDepth 100000 in
set_option maxHeartbeats 4000000 in
theorem p82_j70_w (F : Nat) (a0 : Int32) (K4 : HS → Int32 → Int32 → Option (HS)) (K15 : HS → Int32 → Int32 → Int32 → Int32 → Option (HS)) (hK4 : ∀ (h : HS) (w : WF h) (u2 : Int32) (u3 : Int32) (r : HS), K4 h u2 u3 = some r → WF r) (hK15 : ∀ (h : HS) (w : WF h) (u2 : Int32) (u3 : Int32) (u4 : Int32) (u5 : Int32) (r : HS), K15 h u2 u3 u4 u5 = some r → WF r) (h : HS) (w : WF h) (v2 : Int32) (v3 : Int32) (v5 : Int32) (r : HS) (hp : p82_j70 F a0 K4 K15 h v2 v3 v5 = some r) : WF r := by
  unfold p82_j70 at hp
  exact p82_j74_w F a0 (K4) (K15) (hK4) (hK15) (h) (w) (v2) (v3) (v5) (v5) _ hp
set_option maxRecDepth 100000 in
set_option maxHeartbeats 4000000 in
theorem p82_L15_ok (d : Nat) (F : Nat) (a0 : Int32) (K4 : HS → Int32 → Int32 → Option (HS)) (hK4 : ∀ (h : HS) (w : WF h) (u2 : Int32) (u3 : Int32) (r : HS), K4 h u2 u3 = some r → ex (d + 1) 82 (4, [some (.ref (77)), some (.int (a0)), some (.int (u2)), some (.int (u3)), none, none], [], h) = some (none, r)) : ∀ (n : Nat) (h : HS) (w : WF h) (v2 : Int32) (v3 : Int32) (v4 : Int32) (v5 : Int32) (r : HS), p82_L15 F a0 K4 n h v2 v3 v4 v5 = some r → ex (d + 1) 82 (15, [some (.ref (77)), some (.int (a0)), some (.int (v2)), some (.int (v3)), some (.int (v4)), some (.int (v5))], [], h) = some (none, r) := by
  intro n
  induction n with
  | zero => intro h w v2 v3 v4 v5 r hp; cases hp
  | succ n ih =>
    intro h w v2 v3 v4 v5 r hp
    unfold p82_L15 at hp
    refine e_iload f82_15 rfl ?_
    refine e_iload_n f82_17 rfl ?_
    by_cases hc2 : (v5) < ((a0) : Int32)
    · rw [if_pos hc2] at hp
      refine e_icmp_ge_f f82_18 hc2 ?_
      refine e_iload_n f82_21 rfl ?_
      refine e_iload f82_22 rfl ?_
      refine e_iushr f82_24 ?_
      refine e_iconst (v := 1) f82_25 (by decide) ?_
      refine e_iand f82_26 ?_
      by_cases hc3 : ((((v2).toUInt32 >>> ((v5).toUInt32 &&& Int32.toUInt32 31)).toInt32) &&& (1)) = (0 : Int32)
      · rw [if_pos hc3] at hp
        refine e_if_ne_f f82_27 hc3 ?_
        refine e_aload_n f82_30 rfl ?_
        refine e_iload_n f82_31 rfl ?_
        refine e_iload f82_32 rfl ?_
        obtain ⟨r4, hr5, hp⟩ := bind_some hp
        try dsimp only at hp
        refine e_callV (st := []) (o := 77) (as := [.int (v2), .int (v5)]) f82_34 (by decide) rfl rfl (Nat.le_of_ble_eq_true rfl) (WF.t w 77 (by decide)) (Nat.le_of_ble_eq_true rfl) (p80_ok d (h) w (v2) (v5) r4 hr5) ?_
        show ex _ 82 (37, [some (.ref (77)), some (.int (a0)), some (.int (v2)), some (.int (v3)), some (.int (v4)), some (.int (v5))], [.long (r4)], h) = _
        refine e_aload_n f82_37 rfl ?_
        refine e_getR f82_38 (WF.t w 77 (by decide)) rfl (WF.r (q := 84) w 77 9 (by decide)) ?_
        refine e_iload_n f82_41 rfl ?_
        by_cases hg6 : (v2) < (0 : Int32) ∨ 512 ≤ (v2).toNatClampNeg
        · rw [if_pos hg6] at hp; cases hp
        rw [if_neg hg6] at hp
        refine e_laload f82_42 (WF.t w 84 (by decide)) (WF.n w 84 (by decide)) hg6 ?_
        refine e_lcmp f82_43 ?_
        by_cases hc7 : (lg_cmp (r4) (hL (h) (84) (v2).toNatClampNeg)) = (0 : Int32)
        · rw [if_pos hc7] at hp
          refine e_if_ne_f f82_44 hc7 ?_
          refine e_iload f82_47 rfl ?_
          refine e_iconst (v := -1) f82_49 (by decide) ?_
          by_cases hc8 : (v4) = (((-1)) : Int32)
          · rw [if_pos hc8] at hp
            refine e_icmp_eq_t f82_50 hc8 ?_
            refine ex_weak (ls := [some (.ref (77)), some (.int (a0)), some (.int (v2)), some (.int (v3)), none, some (.int (v5))]) (le2_ok ⟨Or.inr rfl, Or.inr rfl, Or.inr rfl, Or.inr rfl, Or.inl rfl, Or.inr rfl, trivial⟩) ?_
            exact p82_j70_ok d F a0 (K4) ((p82_L15 F a0 K4 n)) (hK4) (ih) (h) (w) (v2) (v3) (v5) _ hp
          · rw [if_neg hc8] at hp
            refine e_icmp_eq_f f82_50 hc8 ?_
            refine e_aload_n f82_53 rfl ?_
            refine e_getR f82_54 (WF.t w 77 (by decide)) rfl (WF.r (q := 81) w 77 6 (by decide)) ?_
            refine e_iload f82_57 rfl ?_
            by_cases hg9 : (v5) < (0 : Int32) ∨ 9 ≤ (v5).toNatClampNeg
            · rw [if_pos hg9] at hp; cases hp
            rw [if_neg hg9] at hp
            refine e_iaload f82_59 (Or.inl (WF.t w 81 (by decide))) (WF.n w 81 (by decide)) hg9 ?_
            refine e_aload_n f82_60 rfl ?_
            refine e_getR f82_61 (WF.t w 77 (by decide)) rfl (WF.r (q := 81) w 77 6 (by decide)) ?_
            refine e_iload f82_64 rfl ?_
            by_cases hg10 : (v4) < (0 : Int32) ∨ 9 ≤ (v4).toNatClampNeg
            · rw [if_pos hg10] at hp; cases hp
            rw [if_neg hg10] at hp
            refine e_iaload f82_66 (Or.inl (WF.t w 81 (by decide))) (WF.n w 81 (by decide)) hg10 ?_
            by_cases hc11 : (hI (h) (81) (v5).toNatClampNeg) < ((hI (h) (81) (v4).toNatClampNeg) : Int32)
            · rw [if_pos hc11] at hp
              refine e_icmp_ge_f f82_67 hc11 ?_
              refine ex_weak (ls := [some (.ref (77)), some (.int (a0)), some (.int (v2)), some (.int (v3)), none, some (.int (v5))]) (le2_ok ⟨Or.inr rfl, Or.inr rfl, Or.inr rfl, Or.inr rfl, Or.inl rfl, Or.inr rfl, trivial⟩) ?_
              exact p82_j70_ok d F a0 (K4) ((p82_L15 F a0 K4 n)) (hK4) (ih) (h) (w) (v2) (v3) (v5) _ hp
            · rw [if_neg hc11] at hp
              refine e_icmp_ge_t f82_67 hc11 ?_
              refine ex_weak (ls := [some (.ref (77)), some (.int (a0)), some (.int (v2)), some (.int (v3)), some (.int (v4)), some (.int (v5))]) (le2_ok ⟨Or.inr rfl, Or.inr rfl, Or.inr rfl, Or.inr rfl, Or.inr rfl, Or.inr rfl, trivial⟩) ?_
              exact p82_j74_ok d F a0 (K4) ((p82_L15 F a0 K4 n)) (hK4) (ih) (h) (w) (v2) (v3) (v4) (v5) _ hp
        · rw [if_neg hc7] at hp
          refine e_if_ne_t f82_44 hc7 ?_
          refine ex_weak (ls := [some (.ref (77)), some (.int (a0)), some (.int (v2)), some (.int (v3)), some (.int (v4)), some (.int (v5))]) (le2_ok ⟨Or.inr rfl, Or.inr rfl, Or.inr rfl, Or.inr rfl, Or.inr rfl, Or.inr rfl, trivial⟩) ?_
          exact p82_j74_ok d F a0 (K4) ((p82_L15 F a0 K4 n)) (hK4) (ih) (h) (w) (v2) (v3) (v4) (v5) _ hp
      · rw [if_neg hc3] at hp
        refine e_if_ne_t f82_27 hc3 ?_
        refine ex_weak (ls := [some (.ref (77)), some (.int (a0)), some (.int (v2)), some (.int (v3)), some (.int (v4)), some (.int (v5))]) (le2_ok ⟨Or.inr rfl, Or.inr rfl, Or.inr rfl, Or.inr rfl, Or.inr rfl, Or.inr rfl, trivial⟩) ?_
        exact p82_j74_ok d F a0 (K4) ((p82_L15 F a0 K4 n)) (hK4) (ih) (h) (w) (v2) (v3) (v4) (v5) _ hp
    · rw [if_neg hc2] at hp
      refine e_icmp_ge_t f82_18 hc2 ?_
      refine e_iload f82_80 rfl ?_
      refine e_iconst (v := -1) f82_82 (by decide) ?_
      by_cases hc12 : (v4) = (((-1)) : Int32)
      · rw [if_pos hc12] at hp
        refine e_icmp_eq_t f82_83 hc12 ?_
        refine ex_weak (ls := [some (.ref (77)), some (.int (a0)), some (.int (v2)), some (.int (v3)), none, none]) (le2_ok ⟨Or.inr rfl, Or.inr rfl, Or.inr rfl, Or.inr rfl, Or.inl rfl, Or.inl rfl, trivial⟩) ?_
        exact p82_j106_ok d F a0 (K4) (hK4) (h) (w) (v2) (v3) _ hp
      · rw [if_neg hc12] at hp
        refine e_icmp_eq_f f82_83 hc12 ?_
        refine e_aload_n f82_86 rfl ?_
        refine e_getR f82_87 (WF.t w 77 (by decide)) rfl (WF.r (q := 80) w 77 5 (by decide)) ?_
        refine e_iload_n f82_90 rfl ?_
        refine e_aload_n f82_91 rfl ?_
        refine e_getR f82_92 (WF.t w 77 (by decide)) rfl (WF.r (q := 81) w 77 6 (by decide)) ?_
        refine e_iload f82_95 rfl ?_
        by_cases hg13 : (v4) < (0 : Int32) ∨ 9 ≤ (v4).toNatClampNeg
        · rw [if_pos hg13] at hp; cases hp
        rw [if_neg hg13] at hp
        refine e_iaload f82_97 (Or.inl (WF.t w 81 (by decide))) (WF.n w 81 (by decide)) hg13 ?_
        by_cases hg14 : (v3) < (0 : Int32) ∨ 9 ≤ (v3).toNatClampNeg
        · rw [if_pos hg14] at hp; cases hp
        rw [if_neg hg14] at hp
        refine e_iastore f82_98 (WF.t w 80 (by decide)) (WF.n w 80 (by decide)) hg14 ?_
        refine e_iload_n f82_99 rfl ?_
        refine e_iconst (v := 1) f82_100 (by decide) ?_
        refine e_iload f82_101 rfl ?_
        refine e_ishl f82_103 ?_
        refine e_ior f82_104 ?_
        refine e_istore_n (ls2 := [some (.ref (77)), some (.int (a0)), some (.int ((v2) ||| ((1) <<< ((v4) &&& 31)))), some (.int (v3)), some (.int (v4)), some (.int (v5))]) f82_105 (Nat.le_of_ble_eq_true rfl) rfl ?_
        refine ex_weak (ls := [some (.ref (77)), some (.int (a0)), some (.int ((v2) ||| ((1) <<< ((v4) &&& 31)))), some (.int (v3)), none, none]) (le2_ok ⟨Or.inr rfl, Or.inr rfl, Or.inr rfl, Or.inr rfl, Or.inl rfl, Or.inl rfl, trivial⟩) ?_
        exact p82_j106_ok d F a0 (K4) (hK4) (hsI (h) (80) (v3).toNatClampNeg (hI (h) (81) (v4).toNatClampNeg)) (w) ((v2) ||| ((1) <<< ((v4) &&& 31))) (v3) _ hp
set_option maxRecDepth 100000 in
set_option maxHeartbeats 4000000 in
theorem p82_L15_w (F : Nat) (a0 : Int32) (K4 : HS → Int32 → Int32 → Option (HS)) (hK4 : ∀ (h : HS) (w : WF h) (u2 : Int32) (u3 : Int32) (r : HS), K4 h u2 u3 = some r → WF r) : ∀ (n : Nat) (h : HS) (w : WF h) (v2 : Int32) (v3 : Int32) (v4 : Int32) (v5 : Int32) (r : HS), p82_L15 F a0 K4 n h v2 v3 v4 v5 = some r → WF r := by
  intro n
  induction n with
  | zero => intro h w v2 v3 v4 v5 r hp; cases hp
  | succ n ih =>
    intro h w v2 v3 v4 v5 r hp
    unfold p82_L15 at hp
    by_cases hc2 : (v5) < ((a0) : Int32)
    · rw [if_pos hc2] at hp
      by_cases hc3 : ((((v2).toUInt32 >>> ((v5).toUInt32 &&& Int32.toUInt32 31)).toInt32) &&& (1)) = (0 : Int32)
      · rw [if_pos hc3] at hp
        obtain ⟨r4, hr5, hp⟩ := bind_some hp
        try dsimp only at hp
        by_cases hg6 : (v2) < (0 : Int32) ∨ 512 ≤ (v2).toNatClampNeg
        · rw [if_pos hg6] at hp; cases hp
        rw [if_neg hg6] at hp
        by_cases hc7 : (lg_cmp (r4) (hL (h) (84) (v2).toNatClampNeg)) = (0 : Int32)
        · rw [if_pos hc7] at hp
          by_cases hc8 : (v4) = (((-1)) : Int32)
          · rw [if_pos hc8] at hp
            exact p82_j70_w F a0 (K4) ((p82_L15 F a0 K4 n)) (hK4) (ih) (h) (w) (v2) (v3) (v5) _ hp
          · rw [if_neg hc8] at hp
            by_cases hg9 : (v5) < (0 : Int32) ∨ 9 ≤ (v5).toNatClampNeg
            · rw [if_pos hg9] at hp; cases hp
            rw [if_neg hg9] at hp
            by_cases hg10 : (v4) < (0 : Int32) ∨ 9 ≤ (v4).toNatClampNeg
            · rw [if_pos hg10] at hp; cases hp
            rw [if_neg hg10] at hp
            by_cases hc11 : (hI (h) (81) (v5).toNatClampNeg) < ((hI (h) (81) (v4).toNatClampNeg) : Int32)
            · rw [if_pos hc11] at hp
              exact p82_j70_w F a0 (K4) ((p82_L15 F a0 K4 n)) (hK4) (ih) (h) (w) (v2) (v3) (v5) _ hp
            · rw [if_neg hc11] at hp
              exact p82_j74_w F a0 (K4) ((p82_L15 F a0 K4 n)) (hK4) (ih) (h) (w) (v2) (v3) (v4) (v5) _ hp
        · rw [if_neg hc7] at hp
          exact p82_j74_w F a0 (K4) ((p82_L15 F a0 K4 n)) (hK4) (ih) (h) (w) (v2) (v3) (v4) (v5) _ hp
      · rw [if_neg hc3] at hp
        exact p82_j74_w F a0 (K4) ((p82_L15 F a0 K4 n)) (hK4) (ih) (h) (w) (v2) (v3) (v4) (v5) _ hp
    · rw [if_neg hc2] at hp
      by_cases hc12 : (v4) = (((-1)) : Int32)
      · rw [if_pos hc12] at hp
        exact p82_j106_w F a0 (K4) (hK4) (h) (w) (v2) (v3) _ hp
      · rw [if_neg hc12] at hp
        by_cases hg13 : (v4) < (0 : Int32) ∨ 9 ≤ (v4).toNatClampNeg
        · rw [if_pos hg13] at hp; cases hp
        rw [if_neg hg13] at hp
        by_cases hg14 : (v3) < (0 : Int32) ∨ 9 ≤ (v3).toNatClampNeg
        · rw [if_pos hg14] at hp; cases hp
        rw [if_neg hg14] at hp
        exact p82_j106_w F a0 (K4) (hK4) (hsI (h) (80) (v3).toNatClampNeg (hI (h) (81) (v4).toNatClampNeg)) (w) ((v2) ||| ((1) <<< ((v4) &&& 31))) (v3) _ hp
set_option maxRecDepth 100000 in
set_option maxHeartbeats 4000000 in
theorem p82_L4_ok (d : Nat) (F : Nat) (a0 : Int32) : ∀ (n : Nat) (h : HS) (w : WF h) (v2 : Int32) (v3 : Int32) (r : HS), p82_L4 F a0 n h v2 v3 = some r → ex (d + 1) 82 (4, [some (.ref (77)), some (.int (a0)), some (.int (v2)), some (.int (v3)), none, none], [], h) = some (none, r) := by
  intro n
  induction n with
  | zero => intro h w v2 v3 r hp; cases hp
  | succ n ih =>
    intro h w v2 v3 r hp
    unfold p82_L4 at hp
    refine e_iload_n f82_4 rfl ?_
    refine e_iload_n f82_5 rfl ?_
    by_cases hc1 : (v3) < ((a0) : Int32)
    · rw [if_pos hc1] at hp
      refine e_icmp_ge_f f82_6 hc1 ?_
      refine e_iconst (v := -1) f82_9 (by decide) ?_
      refine e_istore (ls2 := [some (.ref (77)), some (.int (a0)), some (.int (v2)), some (.int (v3)), some (.int ((-1))), none]) f82_10 (Nat.le_of_ble_eq_true rfl) rfl ?_
      refine e_iconst (v := 0) f82_12 (by decide) ?_
      refine e_istore (ls2 := [some (.ref (77)), some (.int (a0)), some (.int (v2)), some (.int (v3)), some (.int ((-1))), some (.int (0))]) f82_13 (Nat.le_of_ble_eq_true rfl) rfl ?_
      refine ex_weak (ls := [some (.ref (77)), some (.int (a0)), some (.int (v2)), some (.int (v3)), some (.int ((-1))), some (.int (0))]) (le2_ok ⟨Or.inr rfl, Or.inr rfl, Or.inr rfl, Or.inr rfl, Or.inr rfl, Or.inr rfl, trivial⟩) ?_
      exact p82_L15_ok d F a0 ((p82_L4 F a0 n)) (ih) F (h) (w) (v2) (v3) ((-1)) (0) _ hp
    · rw [if_neg hc1] at hp
      refine e_icmp_ge_t f82_6 hc1 ?_
      have hp := Option.some.inj hp
      subst hp
      exact e_return f82_112
set_option maxRecDepth 100000 in
set_option maxHeartbeats 4000000 in
theorem p82_L4_w (F : Nat) (a0 : Int32) : ∀ (n : Nat) (h : HS) (w : WF h) (v2 : Int32) (v3 : Int32) (r : HS), p82_L4 F a0 n h v2 v3 = some r → WF r := by
  intro n
  induction n with
  | zero => intro h w v2 v3 r hp; cases hp
  | succ n ih =>
    intro h w v2 v3 r hp
    unfold p82_L4 at hp
    by_cases hc1 : (v3) < ((a0) : Int32)
    · rw [if_pos hc1] at hp
      exact p82_L15_w F a0 ((p82_L4 F a0 n)) (ih) F (h) (w) (v2) (v3) ((-1)) (0) _ hp
    · rw [if_neg hc1] at hp
      have hp := Option.some.inj hp
      subst hp
      exact (w)
set_option maxRecDepth 100000 in
set_option maxHeartbeats 4000000 in
theorem p82_ok (d : Nat) (F : Nat) (h : HS) (w : WF h) (a0 : Int32) (r : HS) (hp : p82 F h a0 = some r) : ex (d + 1) 82 (ent 82 [.ref (77), .int (a0)] h) = some (none, r) := by
  rw [show ent 82 [.ref (77), .int (a0)] h = (0, [some (.ref (77)), some (.int (a0)), none, none, none, none], [], h) from by  rfl]
  refine ex_weak (ls := [some (.ref (77)), some (.int (a0)), none, none, none, none]) (le2_ok ⟨Or.inr rfl, Or.inr rfl, Or.inr rfl, Or.inr rfl, Or.inr rfl, Or.inr rfl, trivial⟩) ?_
  unfold p82 at hp
  refine e_iconst (v := 0) f82_0 (by decide) ?_
  refine e_istore_n (ls2 := [some (.ref (77)), some (.int (a0)), some (.int (0)), none, none, none]) f82_1 (Nat.le_of_ble_eq_true rfl) rfl ?_
  refine e_iconst (v := 0) f82_2 (by decide) ?_
  refine e_istore_n (ls2 := [some (.ref (77)), some (.int (a0)), some (.int (0)), some (.int (0)), none, none]) f82_3 (Nat.le_of_ble_eq_true rfl) rfl ?_
  refine ex_weak (ls := [some (.ref (77)), some (.int (a0)), some (.int (0)), some (.int (0)), none, none]) (le2_ok ⟨Or.inr rfl, Or.inr rfl, Or.inr rfl, Or.inr rfl, Or.inl rfl, Or.inl rfl, trivial⟩) ?_
  exact p82_L4_ok d F a0 F (h) (w) (0) (0) _ hp
set_option maxRecDepth 100000 in
set_option maxHeartbeats 4000000 in
theorem p82_w (F : Nat) (h : HS) (w : WF h) (a0 : Int32) (r : HS) (hp : p82 F h a0 = some r) : WF r := by
  unfold p82 at hp
  exact p82_L4_w F a0 F (h) (w) (0) (0) _ hp
theorem f76_0 : fetch 76 0 = some (.iload_n 1, 0, 0, 0) := rfl
theorem f76_1 : fetch 76 1 = some (.iconst 1, 0, 0, 0) := rfl
theorem f76_2 : fetch 76 2 = some (.bipush 9, 0, 0, 0) := rfl
theorem f76_4 : fetch 76 4 = some (.invokestatic 42, 166, 3, 2) := rfl
theorem f76_7 : fetch 76 7 = some (.ifCond .eq 20, 27, 0, 0) := rfl
theorem f76_10 : fetch 76 10 = some (.aload_n 0, 0, 0, 0) := rfl
theorem f76_11 : fetch 76 11 = some (.iload_n 1, 0, 0, 0) := rfl
theorem f76_12 : fetch 76 12 = some (.lload_n 2, 0, 0, 0) := rfl
theorem f76_13 : fetch 76 13 = some (.invokevirtual 49, 77, 2, 0) := rfl
theorem f76_16 : fetch 76 16 = some (.ifCond .eq 11, 27, 0, 0) := rfl
theorem f76_19 : fetch 76 19 = some (.aload_n 0, 0, 0, 0) := rfl
theorem f76_20 : fetch 76 20 = some (.iload_n 1, 0, 0, 0) := rfl
theorem f76_21 : fetch 76 21 = some (.invokevirtual 53, 78, 1, 0) := rfl
theorem f76_24 : fetch 76 24 = some (.ifCond .ne 7, 31, 0, 0) := rfl
theorem f76_27 : fetch 76 27 = some (.ldc2_w 57, 0, 0, -1) := rfl
theorem f76_30 : fetch 76 30 = some (.lreturn, 0, 0, 0) := rfl
theorem f76_31 : fetch 76 31 = some (.aload_n 0, 0, 0, 0) := rfl
theorem f76_32 : fetch 76 32 = some (.iload_n 1, 0, 0, 0) := rfl
theorem f76_33 : fetch 76 33 = some (.invokevirtual 59, 79, 1, 0) := rfl
theorem f76_36 : fetch 76 36 = some (.iconst 1, 0, 0, 0) := rfl
theorem f76_37 : fetch 76 37 = some (.iload_n 1, 0, 0, 0) := rfl
theorem f76_38 : fetch 76 38 = some (.ishl, 0, 0, 0) := rfl
theorem f76_39 : fetch 76 39 = some (.iconst 1, 0, 0, 0) := rfl
theorem f76_40 : fetch 76 40 = some (.isub, 0, 0, 0) := rfl
theorem f76_41 : fetch 76 41 = some (.istore 4, 0, 0, 0) := rfl
theorem f76_43 : fetch 76 43 = some (.iload 4, 0, 0, 0) := rfl
theorem f76_45 : fetch 76 45 = some (.ifCond .lt 23, 68, 0, 0) := rfl
theorem f76_48 : fetch 76 48 = some (.aload_n 0, 0, 0, 0) := rfl
theorem f76_49 : fetch 76 49 = some (.getfield 30, 7, 9, 2) := rfl
theorem f76_52 : fetch 76 52 = some (.iload 4, 0, 0, 0) := rfl
theorem f76_54 : fetch 76 54 = some (.aload_n 0, 0, 0, 0) := rfl
theorem f76_55 : fetch 76 55 = some (.iload_n 1, 0, 0, 0) := rfl
theorem f76_56 : fetch 76 56 = some (.iload 4, 0, 0, 0) := rfl
theorem f76_58 : fetch 76 58 = some (.invokevirtual 63, 81, 2, 0) := rfl
theorem f76_61 : fetch 76 61 = some (.lastore, 0, 0, 0) := rfl
theorem f76_62 : fetch 76 62 = some (.iinc 4 (-1), 0, 0, 0) := rfl
theorem f76_65 : fetch 76 65 = some (.goto (-22), 43, 0, 0) := rfl
theorem f76_68 : fetch 76 68 = some (.aload_n 0, 0, 0, 0) := rfl
theorem f76_69 : fetch 76 69 = some (.iload_n 1, 0, 0, 0) := rfl
theorem f76_70 : fetch 76 70 = some (.invokevirtual 67, 82, 1, 0) := rfl
theorem f76_73 : fetch 76 73 = some (.aload_n 0, 0, 0, 0) := rfl
theorem f76_74 : fetch 76 74 = some (.iload_n 1, 0, 0, 0) := rfl
theorem f76_75 : fetch 76 75 = some (.putfield 46, 7, 4, 0) := rfl
theorem f76_78 : fetch 76 78 = some (.aload_n 0, 0, 0, 0) := rfl
theorem f76_79 : fetch 76 79 = some (.iconst 0, 0, 0, 0) := rfl
theorem f76_80 : fetch 76 80 = some (.putfield 38, 7, 1, 0) := rfl
theorem f76_83 : fetch 76 83 = some (.aload_n 0, 0, 0, 0) := rfl
theorem f76_84 : fetch 76 84 = some (.getfield 30, 7, 9, 2) := rfl
theorem f76_87 : fetch 76 87 = some (.iconst 0, 0, 0, 0) := rfl
theorem f76_88 : fetch 76 88 = some (.laload, 0, 0, 0) := rfl
theorem f76_89 : fetch 76 89 = some (.lreturn, 0, 0, 0) := rfl
set_option maxRecDepth 100000 in
set_option maxHeartbeats 4000000 in
theorem p76_L43_ok (d : Nat) (F : Nat) (a0 : Int32) (a1 : Int64) : ∀ (n : Nat) (h : HS) (w : WF h) (v4 : Int32) (r : Int64 × HS), p76_L43 F a0 a1 n h v4 = some r → ex (d + 3) 76 (43, [some (.ref (77)), some (.int (a0)), none, none, some (.int (v4))], [], h) = some (some (.long (r.1)), r.2) := by
  intro n
  induction n with
  | zero => intro h w v4 r hp; cases hp
  | succ n ih =>
    intro h w v4 r hp
    unfold p76_L43 at hp
    refine e_iload f76_43 rfl ?_
    by_cases hc12 : (v4) < (0 : Int32)
    · rw [if_pos hc12] at hp
      refine e_if_lt_t f76_45 hc12 ?_
      refine e_aload_n f76_68 rfl ?_
      refine e_iload_n f76_69 rfl ?_
      obtain ⟨r13, hr14, hp⟩ := bind_some hp
      try dsimp only at hp
      refine e_callV (st := []) (o := 77) (as := [.int (a0)]) f76_70 (by decide) rfl rfl (Nat.le_of_ble_eq_true rfl) (WF.t w 77 (by decide)) (Nat.le_of_ble_eq_true rfl) (p82_ok (d + 1) F (h) w (a0) r13 hr14) ?_
      show ex _ 76 (73, [some (.ref (77)), some (.int (a0)), none, none, some (.int (v4))], [], r13) = _
      refine e_aload_n f76_73 rfl ?_
      refine e_iload_n f76_74 rfl ?_
      refine e_putI f76_75 (WF.t (p82_w F (h) w (a0)  r13 hr14) 77 (by decide)) rfl ?_
      refine e_aload_n f76_78 rfl ?_
      refine e_iconst (v := 0) f76_79 (by decide) ?_
      refine e_putI f76_80 (WF.t (p82_w F (h) w (a0)  r13 hr14) 77 (by decide)) rfl ?_
      refine e_aload_n f76_83 rfl ?_
      refine e_getR f76_84 (WF.t (p82_w F (h) w (a0)  r13 hr14) 77 (by decide)) rfl (WF.r (q := 84) (p82_w F (h) w (a0)  r13 hr14) 77 9 (by decide)) ?_
      refine e_iconst (v := 0) f76_87 (by decide) ?_
      by_cases hg15 : (0) < (0 : Int32) ∨ 512 ≤ (0 : Int32).toNatClampNeg
      · rw [if_pos hg15] at hp; cases hp
      rw [if_neg hg15] at hp
      refine e_laload f76_88 (WF.t (p82_w F (h) w (a0)  r13 hr14) 84 (by decide)) (WF.n (p82_w F (h) w (a0)  r13 hr14) 84 (by decide)) hg15 ?_
      have hp := Option.some.inj hp
      subst hp
      exact e_lreturn f76_89
    · rw [if_neg hc12] at hp
      refine e_if_lt_f f76_45 hc12 ?_
      refine e_aload_n f76_48 rfl ?_
      refine e_getR f76_49 (WF.t w 77 (by decide)) rfl (WF.r (q := 84) w 77 9 (by decide)) ?_
      refine e_iload f76_52 rfl ?_
      refine e_aload_n f76_54 rfl ?_
      refine e_iload_n f76_55 rfl ?_
      refine e_iload f76_56 rfl ?_
      obtain ⟨r16, hr17, hp⟩ := bind_some hp
      try dsimp only at hp
      refine e_callV (st := [.int (v4), .ref (84)]) (o := 77) (as := [.int (a0), .int (v4)]) f76_58 (by decide) rfl rfl (Nat.le_of_ble_eq_true rfl) (WF.t w 77 (by decide)) (Nat.le_of_ble_eq_true rfl) (p81_ok (d + 1) F (h) w (a0) (v4) r16 hr17) ?_
      show ex _ 76 (61, [some (.ref (77)), some (.int (a0)), none, none, some (.int (v4))], [.long (r16), .int (v4), .ref (84)], h) = _
      by_cases hg18 : (v4) < (0 : Int32) ∨ 512 ≤ (v4).toNatClampNeg
      · rw [if_pos hg18] at hp; cases hp
      rw [if_neg hg18] at hp
      refine e_lastore f76_61 (WF.t w 84 (by decide)) (WF.n w 84 (by decide)) hg18 ?_
      refine e_iinc (ls2 := [some (.ref (77)), some (.int (a0)), none, none, some (.int ((v4) + (-1)))]) f76_62 (by decide) rfl rfl ?_
      refine e_goto f76_65 ?_
      refine ex_weak (ls := [some (.ref (77)), some (.int (a0)), none, none, some (.int ((v4) + (-1)))]) (le2_ok ⟨Or.inr rfl, Or.inr rfl, Or.inl rfl, Or.inl rfl, Or.inr rfl, trivial⟩) ?_
      exact ih (hsL (h) (84) (v4).toNatClampNeg (r16)) (w) ((v4) + (-1)) _ hp
set_option maxRecDepth 100000 in
set_option maxHeartbeats 4000000 in
theorem p76_L43_w (F : Nat) (a0 : Int32) (a1 : Int64) : ∀ (n : Nat) (h : HS) (w : WF h) (v4 : Int32) (r : Int64 × HS), p76_L43 F a0 a1 n h v4 = some r → WF r.2 := by
  intro n
  induction n with
  | zero => intro h w v4 r hp; cases hp
  | succ n ih =>
    intro h w v4 r hp
    unfold p76_L43 at hp
    by_cases hc12 : (v4) < (0 : Int32)
    · rw [if_pos hc12] at hp
      obtain ⟨r13, hr14, hp⟩ := bind_some hp
      try dsimp only at hp
      by_cases hg15 : (0) < (0 : Int32) ∨ 512 ≤ (0 : Int32).toNatClampNeg
      · rw [if_pos hg15] at hp; cases hp
      rw [if_neg hg15] at hp
      have hp := Option.some.inj hp
      subst hp
      exact ((p82_w F (h) w (a0)  r13 hr14))
    · rw [if_neg hc12] at hp
      obtain ⟨r16, hr17, hp⟩ := bind_some hp
      try dsimp only at hp
      by_cases hg18 : (v4) < (0 : Int32) ∨ 512 ≤ (v4).toNatClampNeg
      · rw [if_pos hg18] at hp; cases hp
      rw [if_neg hg18] at hp
      exact ih (hsL (h) (84) (v4).toNatClampNeg (r16)) (w) ((v4) + (-1)) _ hp
set_option maxRecDepth 100000 in
set_option maxHeartbeats 4000000 in
theorem p76_ok (d : Nat) (F : Nat) (h : HS) (w : WF h) (a0 : Int32) (a1 : Int64) (r : Int64 × HS) (hp : p76 F h a0 a1 = some r) : ex (d + 3) 76 (ent 76 [.ref (77), .int (a0), .long (a1)] h) = some (some (.long (r.1)), r.2) := by
  rw [show ent 76 [.ref (77), .int (a0), .long (a1)] h = (0, [some (.ref (77)), some (.int (a0)), some (.long (a1)), none, none], [], h) from by  rfl]
  refine ex_weak (ls := [some (.ref (77)), some (.int (a0)), some (.long (a1)), none, none]) (le2_ok ⟨Or.inr rfl, Or.inr rfl, Or.inr rfl, Or.inr rfl, Or.inr rfl, trivial⟩) ?_
  unfold p76 at hp
  refine e_iload_n f76_0 rfl ?_
  refine e_iconst (v := 1) f76_1 (by decide) ?_
  refine e_bipush (v := 9) f76_2 (by decide) ?_
  obtain ⟨r1, hr2, hp⟩ := bind_some hp
  try dsimp only at hp
  refine e_callS (st := []) (as := [.int (a0), .int (1), .int (9)]) f76_4 (by decide) rfl rfl (Nat.le_of_ble_eq_true rfl) (Nat.le_of_ble_eq_true rfl) (p166_ok (d + 2) (h) w (a0) (1) (9) r1 hr2) ?_
  show ex _ 76 (7, [some (.ref (77)), some (.int (a0)), some (.long (a1)), none, none], [.int (r1)], h) = _
  by_cases hc3 : (r1) = (0 : Int32)
  · rw [if_pos hc3] at hp
    refine e_if_eq_t f76_7 hc3 ?_
    refine e_ldc2 (v := -1) f76_27 (by decide) ?_
    have hp := Option.some.inj hp
    subst hp
    exact e_lreturn f76_30
  · rw [if_neg hc3] at hp
    refine e_if_eq_f f76_7 hc3 ?_
    refine e_aload_n f76_10 rfl ?_
    refine e_iload_n f76_11 rfl ?_
    refine e_lload_n f76_12 rfl ?_
    obtain ⟨r4, hr5, hp⟩ := bind_some hp
    try dsimp only at hp
    refine e_callV (st := []) (o := 77) (as := [.int (a0), .long (a1)]) f76_13 (by decide) rfl rfl (Nat.le_of_ble_eq_true rfl) (WF.t w 77 (by decide)) (Nat.le_of_ble_eq_true rfl) (p77_ok d F (h) w (a0) (a1) r4 hr5) ?_
    show ex _ 76 (16, [some (.ref (77)), some (.int (a0)), some (.long (a1)), none, none], [.int (r4.1)], r4.2) = _
    by_cases hc6 : (r4.1) = (0 : Int32)
    · rw [if_pos hc6] at hp
      refine e_if_eq_t f76_16 hc6 ?_
      refine e_ldc2 (v := -1) f76_27 (by decide) ?_
      have hp := Option.some.inj hp
      subst hp
      exact e_lreturn f76_30
    · rw [if_neg hc6] at hp
      refine e_if_eq_f f76_16 hc6 ?_
      refine e_aload_n f76_19 rfl ?_
      refine e_iload_n f76_20 rfl ?_
      obtain ⟨r7, hr8, hp⟩ := bind_some hp
      try dsimp only at hp
      refine e_callV (st := []) (o := 77) (as := [.int (a0)]) f76_21 (by decide) rfl rfl (Nat.le_of_ble_eq_true rfl) (WF.t (p77_w F (h) w (a0) (a1)  r4 hr5) 77 (by decide)) (Nat.le_of_ble_eq_true rfl) (p78_ok (d + 2) F (r4.2) (p77_w F (h) w (a0) (a1)  r4 hr5) (a0) r7 hr8) ?_
      show ex _ 76 (24, [some (.ref (77)), some (.int (a0)), some (.long (a1)), none, none], [.int (r7)], r4.2) = _
      by_cases hc9 : (r7) = (0 : Int32)
      · rw [if_pos hc9] at hp
        refine e_if_ne_f f76_24 hc9 ?_
        refine e_ldc2 (v := -1) f76_27 (by decide) ?_
        have hp := Option.some.inj hp
        subst hp
        exact e_lreturn f76_30
      · rw [if_neg hc9] at hp
        refine e_if_ne_t f76_24 hc9 ?_
        refine e_aload_n f76_31 rfl ?_
        refine e_iload_n f76_32 rfl ?_
        obtain ⟨r10, hr11, hp⟩ := bind_some hp
        try dsimp only at hp
        refine e_callV (st := []) (o := 77) (as := [.int (a0)]) f76_33 (by decide) rfl rfl (Nat.le_of_ble_eq_true rfl) (WF.t (p77_w F (h) w (a0) (a1)  r4 hr5) 77 (by decide)) (Nat.le_of_ble_eq_true rfl) (p79_ok (d + 2) F (r4.2) (p77_w F (h) w (a0) (a1)  r4 hr5) (a0) r10 hr11) ?_
        show ex _ 76 (36, [some (.ref (77)), some (.int (a0)), some (.long (a1)), none, none], [], r10) = _
        refine e_iconst (v := 1) f76_36 (by decide) ?_
        refine e_iload_n f76_37 rfl ?_
        refine e_ishl f76_38 ?_
        refine e_iconst (v := 1) f76_39 (by decide) ?_
        refine e_isub f76_40 ?_
        refine e_istore (ls2 := [some (.ref (77)), some (.int (a0)), some (.long (a1)), none, some (.int (((1) <<< ((a0) &&& 31)) - (1)))]) f76_41 (Nat.le_of_ble_eq_true rfl) rfl ?_
        refine ex_weak (ls := [some (.ref (77)), some (.int (a0)), none, none, some (.int (((1) <<< ((a0) &&& 31)) - (1)))]) (le2_ok ⟨Or.inr rfl, Or.inr rfl, Or.inl rfl, Or.inl rfl, Or.inr rfl, trivial⟩) ?_
        exact p76_L43_ok d F a0 a1 F (r10) ((p79_w F (r4.2) (p77_w F (h) w (a0) (a1)  r4 hr5) (a0)  r10 hr11)) (((1) <<< ((a0) &&& 31)) - (1)) _ hp
set_option maxRecDepth 100000 in
set_option maxHeartbeats 4000000 in
theorem p76_w (F : Nat) (h : HS) (w : WF h) (a0 : Int32) (a1 : Int64) (r : Int64 × HS) (hp : p76 F h a0 a1 = some r) : WF r.2 := by
  unfold p76 at hp
  obtain ⟨r1, hr2, hp⟩ := bind_some hp
  try dsimp only at hp
  by_cases hc3 : (r1) = (0 : Int32)
  · rw [if_pos hc3] at hp
    have hp := Option.some.inj hp
    subst hp
    exact (w)
  · rw [if_neg hc3] at hp
    obtain ⟨r4, hr5, hp⟩ := bind_some hp
    try dsimp only at hp
    by_cases hc6 : (r4.1) = (0 : Int32)
    · rw [if_pos hc6] at hp
      have hp := Option.some.inj hp
      subst hp
      exact ((p77_w F (h) w (a0) (a1)  r4 hr5))
    · rw [if_neg hc6] at hp
      obtain ⟨r7, hr8, hp⟩ := bind_some hp
      try dsimp only at hp
      by_cases hc9 : (r7) = (0 : Int32)
      · rw [if_pos hc9] at hp
        have hp := Option.some.inj hp
        subst hp
        exact ((p77_w F (h) w (a0) (a1)  r4 hr5))
      · rw [if_neg hc9] at hp
        obtain ⟨r10, hr11, hp⟩ := bind_some hp
        try dsimp only at hp
        exact p76_L43_w F a0 a1 F (r10) ((p79_w F (r4.2) (p77_w F (h) w (a0) (a1)  r4 hr5) (a0)  r10 hr11)) (((1) <<< ((a0) &&& 31)) - (1)) _ hp
theorem f84_0 : fetch 84 0 = some (.aload_n 0, 0, 0, 0) := rfl
theorem f84_1 : fetch 84 1 = some (.getfield 28, 8, 0, 0) := rfl
theorem f84_4 : fetch 84 4 = some (.bipush 20, 0, 0, 0) := rfl
theorem f84_6 : fetch 84 6 = some (.if_icmp .ge 14, 20, 0, 0) := rfl
theorem f84_9 : fetch 84 9 = some (.iload_n 1, 0, 0, 0) := rfl
theorem f84_10 : fetch 84 10 = some (.iconst 1, 0, 0, 0) := rfl
theorem f84_11 : fetch 84 11 = some (.sipush 999, 0, 0, 0) := rfl
theorem f84_14 : fetch 84 14 = some (.invokestatic 32, 166, 3, 2) := rfl
theorem f84_17 : fetch 84 17 = some (.ifCond .ne 5, 22, 0, 0) := rfl
theorem f84_20 : fetch 84 20 = some (.iconst (-1), 0, 0, 0) := rfl
theorem f84_21 : fetch 84 21 = some (.ireturn, 0, 0, 0) := rfl
theorem f84_22 : fetch 84 22 = some (.aload_n 0, 0, 0, 0) := rfl
theorem f84_23 : fetch 84 23 = some (.getfield 9, 8, 2, 2) := rfl
theorem f84_26 : fetch 84 26 = some (.aload_n 0, 0, 0, 0) := rfl
theorem f84_27 : fetch 84 27 = some (.getfield 28, 8, 0, 0) := rfl
theorem f84_30 : fetch 84 30 = some (.iload_n 1, 0, 0, 0) := rfl
theorem f84_31 : fetch 84 31 = some (.iastore, 0, 0, 0) := rfl
theorem f84_32 : fetch 84 32 = some (.aload_n 0, 0, 0, 0) := rfl
theorem f84_33 : fetch 84 33 = some (.dup, 0, 0, 0) := rfl
theorem f84_34 : fetch 84 34 = some (.getfield 28, 8, 0, 0) := rfl
theorem f84_37 : fetch 84 37 = some (.dup_x1, 0, 0, 0) := rfl
theorem f84_38 : fetch 84 38 = some (.iconst 1, 0, 0, 0) := rfl
theorem f84_39 : fetch 84 39 = some (.iadd, 0, 0, 0) := rfl
theorem f84_40 : fetch 84 40 = some (.putfield 28, 8, 0, 0) := rfl
theorem f84_43 : fetch 84 43 = some (.ireturn, 0, 0, 0) := rfl
set_option maxRecDepth 100000 in
set_option maxHeartbeats 4000000 in
theorem p84_ok (d : Nat) (h : HS) (w : WF h) (a0 : Int32) (r : Int32 × HS) (hp : p84 h a0 = some r) : ex (d + 1) 84 (ent 84 [.ref (33), .int (a0)] h) = some (some (.int (r.1)), r.2) := by
  rw [show ent 84 [.ref (33), .int (a0)] h = (0, [some (.ref (33)), some (.int (a0))], [], h) from by  rfl]
  refine ex_weak (ls := [some (.ref (33)), some (.int (a0))]) (le2_ok ⟨Or.inr rfl, Or.inr rfl, trivial⟩) ?_
  unfold p84 at hp
  refine e_aload_n f84_0 rfl ?_
  refine e_getI f84_1 (WF.t w 33 (by decide)) (by decide) ?_
  refine e_bipush (v := 20) f84_4 (by decide) ?_
  by_cases hc1 : (hI (h) (33) 0) < ((20) : Int32)
  · rw [if_pos hc1] at hp
    refine e_icmp_ge_f f84_6 hc1 ?_
    refine e_iload_n f84_9 rfl ?_
    refine e_iconst (v := 1) f84_10 (by decide) ?_
    refine e_sipush (v := 999) f84_11 (by decide) ?_
    obtain ⟨r2, hr3, hp⟩ := bind_some hp
    try dsimp only at hp
    refine e_callS (st := []) (as := [.int (a0), .int (1), .int (999)]) f84_14 (by decide) rfl rfl (Nat.le_of_ble_eq_true rfl) (Nat.le_of_ble_eq_true rfl) (p166_ok d (h) w (a0) (1) (999) r2 hr3) ?_
    show ex _ 84 (17, [some (.ref (33)), some (.int (a0))], [.int (r2)], h) = _
    by_cases hc4 : (r2) = (0 : Int32)
    · rw [if_pos hc4] at hp
      refine e_if_ne_f f84_17 hc4 ?_
      refine e_iconst (v := -1) f84_20 (by decide) ?_
      have hp := Option.some.inj hp
      subst hp
      exact e_ireturn f84_21 (Or.inl rfl)
    · rw [if_neg hc4] at hp
      refine e_if_ne_t f84_17 hc4 ?_
      refine e_aload_n f84_22 rfl ?_
      refine e_getR f84_23 (WF.t w 33 (by decide)) rfl (WF.r (q := 34) w 33 2 (by decide)) ?_
      refine e_aload_n f84_26 rfl ?_
      refine e_getI f84_27 (WF.t w 33 (by decide)) (by decide) ?_
      refine e_iload_n f84_30 rfl ?_
      by_cases hg5 : (hI (h) (33) 0) < (0 : Int32) ∨ 20 ≤ (hI (h) (33) 0).toNatClampNeg
      · rw [if_pos hg5] at hp; cases hp
      rw [if_neg hg5] at hp
      refine e_iastore f84_31 (WF.t w 34 (by decide)) (WF.n w 34 (by decide)) hg5 ?_
      refine e_aload_n f84_32 rfl ?_
      refine e_dup f84_33 rfl ?_
      refine e_getI f84_34 (WF.t w 33 (by decide)) (by decide) ?_
      refine e_dup_x1 f84_37 rfl rfl ?_
      refine e_iconst (v := 1) f84_38 (by decide) ?_
      refine e_iadd f84_39 ?_
      refine e_putI f84_40 (WF.t w 33 (by decide)) rfl ?_
      obtain ⟨h6, e7, hp⟩ := bind_some hp
      try dsimp only at hp
      have e7 := Option.some.inj e7
      have w8 : WF h6 := e7 ▸ w
      rw [e7]
      have hp := Option.some.inj hp
      subst hp
      exact e_ireturn f84_43 (Or.inl rfl)
  · rw [if_neg hc1] at hp
    refine e_icmp_ge_t f84_6 hc1 ?_
    refine e_iconst (v := -1) f84_20 (by decide) ?_
    have hp := Option.some.inj hp
    subst hp
    exact e_ireturn f84_21 (Or.inl rfl)
set_option maxRecDepth 100000 in
set_option maxHeartbeats 4000000 in
theorem p84_w (h : HS) (w : WF h) (a0 : Int32) (r : Int32 × HS) (hp : p84 h a0 = some r) : WF r.2 := by
  unfold p84 at hp
  by_cases hc1 : (hI (h) (33) 0) < ((20) : Int32)
  · rw [if_pos hc1] at hp
    obtain ⟨r2, hr3, hp⟩ := bind_some hp
    try dsimp only at hp
    by_cases hc4 : (r2) = (0 : Int32)
    · rw [if_pos hc4] at hp
      have hp := Option.some.inj hp
      subst hp
      exact (w)
    · rw [if_neg hc4] at hp
      by_cases hg5 : (hI (h) (33) 0) < (0 : Int32) ∨ 20 ≤ (hI (h) (33) 0).toNatClampNeg
      · rw [if_pos hg5] at hp; cases hp
      rw [if_neg hg5] at hp
      obtain ⟨h6, e7, hp⟩ := bind_some hp
      try dsimp only at hp
      have e7 := Option.some.inj e7
      have w8 : WF h6 := e7 ▸ w
      have hp := Option.some.inj hp
      subst hp
      exact (w8)
  · rw [if_neg hc1] at hp
    have hp := Option.some.inj hp
    subst hp
    exact (w)
theorem f85_0 : fetch 85 0 = some (.aload_n 0, 0, 0, 0) := rfl
theorem f85_1 : fetch 85 1 = some (.getfield 36, 8, 1, 0) := rfl
theorem f85_4 : fetch 85 4 = some (.sipush 200, 0, 0, 0) := rfl
theorem f85_7 : fetch 85 7 = some (.if_icmp .ge 21, 28, 0, 0) := rfl
theorem f85_10 : fetch 85 10 = some (.aload_n 0, 0, 0, 0) := rfl
theorem f85_11 : fetch 85 11 = some (.iload_n 1, 0, 0, 0) := rfl
theorem f85_12 : fetch 85 12 = some (.invokevirtual 39, 86, 1, 0) := rfl
theorem f85_15 : fetch 85 15 = some (.ifCond .eq 13, 28, 0, 0) := rfl
theorem f85_18 : fetch 85 18 = some (.iload_n 2, 0, 0, 0) := rfl
theorem f85_19 : fetch 85 19 = some (.iconst 0, 0, 0, 0) := rfl
theorem f85_20 : fetch 85 20 = some (.bipush 15, 0, 0, 0) := rfl
theorem f85_22 : fetch 85 22 = some (.invokestatic 32, 166, 3, 2) := rfl
theorem f85_25 : fetch 85 25 = some (.ifCond .ne 5, 30, 0, 0) := rfl
theorem f85_28 : fetch 85 28 = some (.iconst (-1), 0, 0, 0) := rfl
theorem f85_29 : fetch 85 29 = some (.ireturn, 0, 0, 0) := rfl
theorem f85_30 : fetch 85 30 = some (.aload_n 0, 0, 0, 0) := rfl
theorem f85_31 : fetch 85 31 = some (.getfield 15, 8, 3, 2) := rfl
theorem f85_34 : fetch 85 34 = some (.aload_n 0, 0, 0, 0) := rfl
theorem f85_35 : fetch 85 35 = some (.getfield 36, 8, 1, 0) := rfl
theorem f85_38 : fetch 85 38 = some (.iload_n 1, 0, 0, 0) := rfl
theorem f85_39 : fetch 85 39 = some (.iastore, 0, 0, 0) := rfl
theorem f85_40 : fetch 85 40 = some (.aload_n 0, 0, 0, 0) := rfl
theorem f85_41 : fetch 85 41 = some (.getfield 18, 8, 4, 2) := rfl
theorem f85_44 : fetch 85 44 = some (.aload_n 0, 0, 0, 0) := rfl
theorem f85_45 : fetch 85 45 = some (.getfield 36, 8, 1, 0) := rfl
theorem f85_48 : fetch 85 48 = some (.iload_n 2, 0, 0, 0) := rfl
theorem f85_49 : fetch 85 49 = some (.iastore, 0, 0, 0) := rfl
theorem f85_50 : fetch 85 50 = some (.aload_n 0, 0, 0, 0) := rfl
theorem f85_51 : fetch 85 51 = some (.getfield 21, 8, 5, 2) := rfl
theorem f85_54 : fetch 85 54 = some (.aload_n 0, 0, 0, 0) := rfl
theorem f85_55 : fetch 85 55 = some (.getfield 36, 8, 1, 0) := rfl
theorem f85_58 : fetch 85 58 = some (.iconst (-1), 0, 0, 0) := rfl
theorem f85_59 : fetch 85 59 = some (.iastore, 0, 0, 0) := rfl
theorem f85_60 : fetch 85 60 = some (.aload_n 0, 0, 0, 0) := rfl
theorem f85_61 : fetch 85 61 = some (.getfield 24, 8, 6, 2) := rfl
theorem f85_64 : fetch 85 64 = some (.aload_n 0, 0, 0, 0) := rfl
theorem f85_65 : fetch 85 65 = some (.getfield 36, 8, 1, 0) := rfl
theorem f85_68 : fetch 85 68 = some (.lload_n 3, 0, 0, 0) := rfl
theorem f85_69 : fetch 85 69 = some (.lastore, 0, 0, 0) := rfl
theorem f85_70 : fetch 85 70 = some (.aload_n 0, 0, 0, 0) := rfl
theorem f85_71 : fetch 85 71 = some (.dup, 0, 0, 0) := rfl
theorem f85_72 : fetch 85 72 = some (.getfield 36, 8, 1, 0) := rfl
theorem f85_75 : fetch 85 75 = some (.dup_x1, 0, 0, 0) := rfl
theorem f85_76 : fetch 85 76 = some (.iconst 1, 0, 0, 0) := rfl
theorem f85_77 : fetch 85 77 = some (.iadd, 0, 0, 0) := rfl
theorem f85_78 : fetch 85 78 = some (.putfield 36, 8, 1, 0) := rfl
theorem f85_81 : fetch 85 81 = some (.ireturn, 0, 0, 0) := rfl
set_option maxRecDepth 100000 in
set_option maxHeartbeats 4000000 in
theorem p85_ok (d : Nat) (h : HS) (w : WF h) (a0 : Int32) (a1 : Int32) (a2 : Int64) (r : Int32 × HS) (hp : p85 h a0 a1 a2 = some r) : ex (d + 2) 85 (ent 85 [.ref (33), .int (a0), .int (a1), .long (a2)] h) = some (some (.int (r.1)), r.2) := by
  rw [show ent 85 [.ref (33), .int (a0), .int (a1), .long (a2)] h = (0, [some (.ref (33)), some (.int (a0)), some (.int (a1)), some (.long (a2)), none], [], h) from by  rfl]
  refine ex_weak (ls := [some (.ref (33)), some (.int (a0)), some (.int (a1)), some (.long (a2)), none]) (le2_ok ⟨Or.inr rfl, Or.inr rfl, Or.inr rfl, Or.inr rfl, Or.inr rfl, trivial⟩) ?_
  unfold p85 at hp
  refine e_aload_n f85_0 rfl ?_
  refine e_getI f85_1 (WF.t w 33 (by decide)) (by decide) ?_
  refine e_sipush (v := 200) f85_4 (by decide) ?_
  by_cases hc1 : (hI (h) (33) 1) < ((200) : Int32)
  · rw [if_pos hc1] at hp
    refine e_icmp_ge_f f85_7 hc1 ?_
    refine e_aload_n f85_10 rfl ?_
    refine e_iload_n f85_11 rfl ?_
    obtain ⟨r2, hr3, hp⟩ := bind_some hp
    try dsimp only at hp
    refine e_callV (st := []) (o := 33) (as := [.int (a0)]) f85_12 (by decide) rfl rfl (Nat.le_of_ble_eq_true rfl) (WF.t w 33 (by decide)) (Nat.le_of_ble_eq_true rfl) (p86_ok d (h) w (a0) r2 hr3) ?_
    show ex _ 85 (15, [some (.ref (33)), some (.int (a0)), some (.int (a1)), some (.long (a2)), none], [.int (r2)], h) = _
    by_cases hc4 : (r2) = (0 : Int32)
    · rw [if_pos hc4] at hp
      refine e_if_eq_t f85_15 hc4 ?_
      refine e_iconst (v := -1) f85_28 (by decide) ?_
      have hp := Option.some.inj hp
      subst hp
      exact e_ireturn f85_29 (Or.inl rfl)
    · rw [if_neg hc4] at hp
      refine e_if_eq_f f85_15 hc4 ?_
      refine e_iload_n f85_18 rfl ?_
      refine e_iconst (v := 0) f85_19 (by decide) ?_
      refine e_bipush (v := 15) f85_20 (by decide) ?_
      obtain ⟨r5, hr6, hp⟩ := bind_some hp
      try dsimp only at hp
      refine e_callS (st := []) (as := [.int (a1), .int (0), .int (15)]) f85_22 (by decide) rfl rfl (Nat.le_of_ble_eq_true rfl) (Nat.le_of_ble_eq_true rfl) (p166_ok (d + 1) (h) w (a1) (0) (15) r5 hr6) ?_
      show ex _ 85 (25, [some (.ref (33)), some (.int (a0)), some (.int (a1)), some (.long (a2)), none], [.int (r5)], h) = _
      by_cases hc7 : (r5) = (0 : Int32)
      · rw [if_pos hc7] at hp
        refine e_if_ne_f f85_25 hc7 ?_
        refine e_iconst (v := -1) f85_28 (by decide) ?_
        have hp := Option.some.inj hp
        subst hp
        exact e_ireturn f85_29 (Or.inl rfl)
      · rw [if_neg hc7] at hp
        refine e_if_ne_t f85_25 hc7 ?_
        refine e_aload_n f85_30 rfl ?_
        refine e_getR f85_31 (WF.t w 33 (by decide)) rfl (WF.r (q := 35) w 33 3 (by decide)) ?_
        refine e_aload_n f85_34 rfl ?_
        refine e_getI f85_35 (WF.t w 33 (by decide)) (by decide) ?_
        refine e_iload_n f85_38 rfl ?_
        by_cases hg8 : (hI (h) (33) 1) < (0 : Int32) ∨ 200 ≤ (hI (h) (33) 1).toNatClampNeg
        · rw [if_pos hg8] at hp; cases hp
        rw [if_neg hg8] at hp
        refine e_iastore f85_39 (WF.t w 35 (by decide)) (WF.n w 35 (by decide)) hg8 ?_
        refine e_aload_n f85_40 rfl ?_
        refine e_getR f85_41 (WF.t w 33 (by decide)) rfl (WF.r (q := 36) w 33 4 (by decide)) ?_
        refine e_aload_n f85_44 rfl ?_
        refine e_getI f85_45 (WF.t w 33 (by decide)) (by decide) ?_
        refine e_iload_n f85_48 rfl ?_
        by_cases hg9 : (hI (hsI (h) (35) (hI (h) (33) 1).toNatClampNeg (a0)) (33) 1) < (0 : Int32) ∨ 200 ≤ (hI (hsI (h) (35) (hI (h) (33) 1).toNatClampNeg (a0)) (33) 1).toNatClampNeg
        · rw [if_pos hg9] at hp; cases hp
        rw [if_neg hg9] at hp
        refine e_iastore f85_49 (WF.t w 36 (by decide)) (WF.n w 36 (by decide)) hg9 ?_
        obtain ⟨h10, e11, hp⟩ := bind_some hp
        try dsimp only at hp
        have e11 := Option.some.inj e11
        have w12 : WF h10 := e11 ▸ w
        rw [e11]
        refine e_aload_n f85_50 rfl ?_
        refine e_getR f85_51 (WF.t w12 33 (by decide)) rfl (WF.r (q := 37) w12 33 5 (by decide)) ?_
        refine e_aload_n f85_54 rfl ?_
        refine e_getI f85_55 (WF.t w12 33 (by decide)) (by decide) ?_
        refine e_iconst (v := -1) f85_58 (by decide) ?_
        by_cases hg13 : (hI (h10) (33) 1) < (0 : Int32) ∨ 200 ≤ (hI (h10) (33) 1).toNatClampNeg
        · rw [if_pos hg13] at hp; cases hp
        rw [if_neg hg13] at hp
        refine e_iastore f85_59 (WF.t w12 37 (by decide)) (WF.n w12 37 (by decide)) hg13 ?_
        refine e_aload_n f85_60 rfl ?_
        refine e_getR f85_61 (WF.t w12 33 (by decide)) rfl (WF.r (q := 38) w12 33 6 (by decide)) ?_
        refine e_aload_n f85_64 rfl ?_
        refine e_getI f85_65 (WF.t w12 33 (by decide)) (by decide) ?_
        refine e_lload_n f85_68 rfl ?_
        by_cases hg14 : (hI (hsI (h10) (37) (hI (h10) (33) 1).toNatClampNeg ((-1))) (33) 1) < (0 : Int32) ∨ 200 ≤ (hI (hsI (h10) (37) (hI (h10) (33) 1).toNatClampNeg ((-1))) (33) 1).toNatClampNeg
        · rw [if_pos hg14] at hp; cases hp
        rw [if_neg hg14] at hp
        refine e_lastore f85_69 (WF.t w12 38 (by decide)) (WF.n w12 38 (by decide)) hg14 ?_
        obtain ⟨h15, e16, hp⟩ := bind_some hp
        try dsimp only at hp
        have e16 := Option.some.inj e16
        have w17 : WF h15 := e16 ▸ w12
        rw [e16]
        refine e_aload_n f85_70 rfl ?_
        refine e_dup f85_71 rfl ?_
        refine e_getI f85_72 (WF.t w17 33 (by decide)) (by decide) ?_
        refine e_dup_x1 f85_75 rfl rfl ?_
        refine e_iconst (v := 1) f85_76 (by decide) ?_
        refine e_iadd f85_77 ?_
        refine e_putI f85_78 (WF.t w17 33 (by decide)) rfl ?_
        have hp := Option.some.inj hp
        subst hp
        exact e_ireturn f85_81 (Or.inl rfl)
  · rw [if_neg hc1] at hp
    refine e_icmp_ge_t f85_7 hc1 ?_
    refine e_iconst (v := -1) f85_28 (by decide) ?_
    have hp := Option.some.inj hp
    subst hp
    exact e_ireturn f85_29 (Or.inl rfl)
set_option maxRecDepth 100000 in
set_option maxHeartbeats 4000000 in
theorem p85_w (h : HS) (w : WF h) (a0 : Int32) (a1 : Int32) (a2 : Int64) (r : Int32 × HS) (hp : p85 h a0 a1 a2 = some r) : WF r.2 := by
  unfold p85 at hp
  by_cases hc1 : (hI (h) (33) 1) < ((200) : Int32)
  · rw [if_pos hc1] at hp
    obtain ⟨r2, hr3, hp⟩ := bind_some hp
    try dsimp only at hp
    by_cases hc4 : (r2) = (0 : Int32)
    · rw [if_pos hc4] at hp
      have hp := Option.some.inj hp
      subst hp
      exact (w)
    · rw [if_neg hc4] at hp
      obtain ⟨r5, hr6, hp⟩ := bind_some hp
      try dsimp only at hp
      by_cases hc7 : (r5) = (0 : Int32)
      · rw [if_pos hc7] at hp
        have hp := Option.some.inj hp
        subst hp
        exact (w)
      · rw [if_neg hc7] at hp
        by_cases hg8 : (hI (h) (33) 1) < (0 : Int32) ∨ 200 ≤ (hI (h) (33) 1).toNatClampNeg
        · rw [if_pos hg8] at hp; cases hp
        rw [if_neg hg8] at hp
        by_cases hg9 : (hI (hsI (h) (35) (hI (h) (33) 1).toNatClampNeg (a0)) (33) 1) < (0 : Int32) ∨ 200 ≤ (hI (hsI (h) (35) (hI (h) (33) 1).toNatClampNeg (a0)) (33) 1).toNatClampNeg
        · rw [if_pos hg9] at hp; cases hp
        rw [if_neg hg9] at hp
        obtain ⟨h10, e11, hp⟩ := bind_some hp
        try dsimp only at hp
        have e11 := Option.some.inj e11
        have w12 : WF h10 := e11 ▸ w
        by_cases hg13 : (hI (h10) (33) 1) < (0 : Int32) ∨ 200 ≤ (hI (h10) (33) 1).toNatClampNeg
        · rw [if_pos hg13] at hp; cases hp
        rw [if_neg hg13] at hp
        by_cases hg14 : (hI (hsI (h10) (37) (hI (h10) (33) 1).toNatClampNeg ((-1))) (33) 1) < (0 : Int32) ∨ 200 ≤ (hI (hsI (h10) (37) (hI (h10) (33) 1).toNatClampNeg ((-1))) (33) 1).toNatClampNeg
        · rw [if_pos hg14] at hp; cases hp
        rw [if_neg hg14] at hp
        obtain ⟨h15, e16, hp⟩ := bind_some hp
        try dsimp only at hp
        have e16 := Option.some.inj e16
        have w17 : WF h15 := e16 ▸ w12
        have hp := Option.some.inj hp
        subst hp
        exact (w17)
  · rw [if_neg hc1] at hp
    have hp := Option.some.inj hp
    subst hp
    exact (w)
theorem f92_0 : fetch 92 0 = some (.iconst 0, 0, 0, 0) := rfl
theorem f92_1 : fetch 92 1 = some (.istore_n 1, 0, 0, 0) := rfl
theorem f92_2 : fetch 92 2 = some (.iconst 0, 0, 0, 0) := rfl
theorem f92_3 : fetch 92 3 = some (.istore_n 2, 0, 0, 0) := rfl
theorem f92_4 : fetch 92 4 = some (.iload_n 2, 0, 0, 0) := rfl
theorem f92_5 : fetch 92 5 = some (.aload_n 0, 0, 0, 0) := rfl
theorem f92_6 : fetch 92 6 = some (.getfield 36, 8, 1, 0) := rfl
theorem f92_9 : fetch 92 9 = some (.if_icmp .ge 22, 31, 0, 0) := rfl
theorem f92_12 : fetch 92 12 = some (.aload_n 0, 0, 0, 0) := rfl
theorem f92_13 : fetch 92 13 = some (.getfield 21, 8, 5, 2) := rfl
theorem f92_16 : fetch 92 16 = some (.iload_n 2, 0, 0, 0) := rfl
theorem f92_17 : fetch 92 17 = some (.iaload, 0, 0, 0) := rfl
theorem f92_18 : fetch 92 18 = some (.iconst (-1), 0, 0, 0) := rfl
theorem f92_19 : fetch 92 19 = some (.if_icmp .ne 6, 25, 0, 0) := rfl
theorem f92_22 : fetch 92 22 = some (.iinc 1 1, 0, 0, 0) := rfl
theorem f92_25 : fetch 92 25 = some (.iinc 2 1, 0, 0, 0) := rfl
theorem f92_28 : fetch 92 28 = some (.goto (-24), 4, 0, 0) := rfl
theorem f92_31 : fetch 92 31 = some (.iload_n 1, 0, 0, 0) := rfl
theorem f92_32 : fetch 92 32 = some (.ireturn, 0, 0, 0) := rfl
set_option maxRecDepth 100000 in
set_option maxHeartbeats 4000000 in
theorem p92_j25_ok (d : Nat) (F : Nat) (K4 : Int32 → Int32 → Option (Int32)) (h : HS) (w : WF h) (hK4 : ∀ (u1 : Int32) (u2 : Int32) (r : Int32), K4 u1 u2 = some r → ex (d + 0) 92 (4, [some (.ref (33)), some (.int (u1)), some (.int (u2))], [], h) = some (some (.int (r)), h)) (v1 : Int32) (v2 : Int32) (r : Int32) (hp : p92_j25 F K4 h v1 v2 = some r) : ex (d + 0) 92 (25, [some (.ref (33)), some (.int (v1)), some (.int (v2))], [], h) = some (some (.int (r)), h) := by
  unfold p92_j25 at hp
  refine e_iinc (ls2 := [some (.ref (33)), some (.int (v1)), some (.int ((v2) + 1))]) f92_25 (by decide) rfl rfl ?_
  refine e_goto f92_28 ?_
  refine ex_weak (ls := [some (.ref (33)), some (.int (v1)), some (.int ((v2) + 1))]) (le2_ok ⟨Or.inr rfl, Or.inr rfl, Or.inr rfl, trivial⟩) ?_
  exact hK4 (v1) ((v2) + 1) _ hp
set_option maxRecDepth 100000 in
set_option maxHeartbeats 4000000 in
theorem p92_L4_ok (d : Nat) (F : Nat) (h : HS) (w : WF h)  : ∀ (n : Nat) (v1 : Int32) (v2 : Int32) (r : Int32), p92_L4 F n h v1 v2 = some r → ex (d + 0) 92 (4, [some (.ref (33)), some (.int (v1)), some (.int (v2))], [], h) = some (some (.int (r)), h) := by
  intro n
  induction n with
  | zero => intro v1 v2 r hp; cases hp
  | succ n ih =>
    intro v1 v2 r hp
    unfold p92_L4 at hp
    refine e_iload_n f92_4 rfl ?_
    refine e_aload_n f92_5 rfl ?_
    refine e_getI f92_6 (WF.t w 33 (by decide)) (by decide) ?_
    by_cases hc1 : (v2) < ((hI (h) (33) 1) : Int32)
    · rw [if_pos hc1] at hp
      refine e_icmp_ge_f f92_9 hc1 ?_
      refine e_aload_n f92_12 rfl ?_
      refine e_getR f92_13 (WF.t w 33 (by decide)) rfl (WF.r (q := 37) w 33 5 (by decide)) ?_
      refine e_iload_n f92_16 rfl ?_
      by_cases hg2 : (v2) < (0 : Int32) ∨ 200 ≤ (v2).toNatClampNeg
      · rw [if_pos hg2] at hp; cases hp
      rw [if_neg hg2] at hp
      refine e_iaload f92_17 (Or.inl (WF.t w 37 (by decide))) (WF.n w 37 (by decide)) hg2 ?_
      refine e_iconst (v := -1) f92_18 (by decide) ?_
      by_cases hc3 : (hI (h) (37) (v2).toNatClampNeg) = (((-1)) : Int32)
      · rw [if_pos hc3] at hp
        refine e_icmp_ne_f f92_19 hc3 ?_
        refine e_iinc (ls2 := [some (.ref (33)), some (.int ((v1) + 1)), some (.int (v2))]) f92_22 (by decide) rfl rfl ?_
        refine ex_weak (ls := [some (.ref (33)), some (.int ((v1) + 1)), some (.int (v2))]) (le2_ok ⟨Or.inr rfl, Or.inr rfl, Or.inr rfl, trivial⟩) ?_
        exact p92_j25_ok d F ((p92_L4 F n h)) (h) (w) (ih) ((v1) + 1) (v2) _ hp
      · rw [if_neg hc3] at hp
        refine e_icmp_ne_t f92_19 hc3 ?_
        refine ex_weak (ls := [some (.ref (33)), some (.int (v1)), some (.int (v2))]) (le2_ok ⟨Or.inr rfl, Or.inr rfl, Or.inr rfl, trivial⟩) ?_
        exact p92_j25_ok d F ((p92_L4 F n h)) (h) (w) (ih) (v1) (v2) _ hp
    · rw [if_neg hc1] at hp
      refine e_icmp_ge_t f92_9 hc1 ?_
      refine e_iload_n f92_31 rfl ?_
      have hp := Option.some.inj hp
      subst hp
      exact e_ireturn f92_32 (Or.inl rfl)
set_option maxRecDepth 100000 in
set_option maxHeartbeats 4000000 in
theorem p92_ok (d : Nat) (F : Nat) (h : HS) (w : WF h) (r : Int32) (hp : p92 F h = some r) : ex (d + 0) 92 (ent 92 [.ref (33)] h) = some (some (.int (r)), h) := by
  rw [show ent 92 [.ref (33)] h = (0, [some (.ref (33)), none, none], [], h) from by  rfl]
  refine ex_weak (ls := [some (.ref (33)), none, none]) (le2_ok ⟨Or.inr rfl, Or.inr rfl, Or.inr rfl, trivial⟩) ?_
  unfold p92 at hp
  refine e_iconst (v := 0) f92_0 (by decide) ?_
  refine e_istore_n (ls2 := [some (.ref (33)), some (.int (0)), none]) f92_1 (Nat.le_of_ble_eq_true rfl) rfl ?_
  refine e_iconst (v := 0) f92_2 (by decide) ?_
  refine e_istore_n (ls2 := [some (.ref (33)), some (.int (0)), some (.int (0))]) f92_3 (Nat.le_of_ble_eq_true rfl) rfl ?_
  refine ex_weak (ls := [some (.ref (33)), some (.int (0)), some (.int (0))]) (le2_ok ⟨Or.inr rfl, Or.inr rfl, Or.inr rfl, trivial⟩) ?_
  exact p92_L4_ok d F (h) (w) F (0) (0) _ hp
theorem f93_0 : fetch 93 0 = some (.iconst 0, 0, 0, 0) := rfl
theorem f93_1 : fetch 93 1 = some (.istore_n 2, 0, 0, 0) := rfl
theorem f93_2 : fetch 93 2 = some (.iconst 0, 0, 0, 0) := rfl
theorem f93_3 : fetch 93 3 = some (.istore_n 3, 0, 0, 0) := rfl
theorem f93_4 : fetch 93 4 = some (.iload_n 3, 0, 0, 0) := rfl
theorem f93_5 : fetch 93 5 = some (.aload_n 0, 0, 0, 0) := rfl
theorem f93_6 : fetch 93 6 = some (.getfield 36, 8, 1, 0) := rfl
theorem f93_9 : fetch 93 9 = some (.if_icmp .ge 29, 38, 0, 0) := rfl
theorem f93_12 : fetch 93 12 = some (.aload_n 0, 0, 0, 0) := rfl
theorem f93_13 : fetch 93 13 = some (.getfield 21, 8, 5, 2) := rfl
theorem f93_16 : fetch 93 16 = some (.iload_n 3, 0, 0, 0) := rfl
theorem f93_17 : fetch 93 17 = some (.iaload, 0, 0, 0) := rfl
theorem f93_18 : fetch 93 18 = some (.iload_n 1, 0, 0, 0) := rfl
theorem f93_19 : fetch 93 19 = some (.if_icmp .ne 13, 32, 0, 0) := rfl
theorem f93_22 : fetch 93 22 = some (.aload_n 0, 0, 0, 0) := rfl
theorem f93_23 : fetch 93 23 = some (.getfield 21, 8, 5, 2) := rfl
theorem f93_26 : fetch 93 26 = some (.iload_n 3, 0, 0, 0) := rfl
theorem f93_27 : fetch 93 27 = some (.iconst (-1), 0, 0, 0) := rfl
theorem f93_28 : fetch 93 28 = some (.iastore, 0, 0, 0) := rfl
theorem f93_29 : fetch 93 29 = some (.iinc 2 1, 0, 0, 0) := rfl
theorem f93_32 : fetch 93 32 = some (.iinc 3 1, 0, 0, 0) := rfl
theorem f93_35 : fetch 93 35 = some (.goto (-31), 4, 0, 0) := rfl
theorem f93_38 : fetch 93 38 = some (.iload_n 2, 0, 0, 0) := rfl
theorem f93_39 : fetch 93 39 = some (.ireturn, 0, 0, 0) := rfl
set_option maxRecDepth 100000 in
set_option maxHeartbeats 4000000 in
theorem p93_j32_ok (d : Nat) (F : Nat) (a0 : Int32) (K4 : HS → Int32 → Int32 → Option (Int32 × HS)) (hK4 : ∀ (h : HS) (w : WF h) (u2 : Int32) (u3 : Int32) (r : Int32 × HS), K4 h u2 u3 = some r → ex (d + 0) 93 (4, [some (.ref (33)), some (.int (a0)), some (.int (u2)), some (.int (u3))], [], h) = some (some (.int (r.1)), r.2)) (h : HS) (w : WF h) (v2 : Int32) (v3 : Int32) (r : Int32 × HS) (hp : p93_j32 F a0 K4 h v2 v3 = some r) : ex (d + 0) 93 (32, [some (.ref (33)), some (.int (a0)), some (.int (v2)), some (.int (v3))], [], h) = some (some (.int (r.1)), r.2) := by
  unfold p93_j32 at hp
  refine e_iinc (ls2 := [some (.ref (33)), some (.int (a0)), some (.int (v2)), some (.int ((v3) + 1))]) f93_32 (by decide) rfl rfl ?_
  refine e_goto f93_35 ?_
  refine ex_weak (ls := [some (.ref (33)), some (.int (a0)), some (.int (v2)), some (.int ((v3) + 1))]) (le2_ok ⟨Or.inr rfl, Or.inr rfl, Or.inr rfl, Or.inr rfl, trivial⟩) ?_
  exact hK4 (h) (w) (v2) ((v3) + 1) _ hp
set_option maxRecDepth 100000 in
set_option maxHeartbeats 4000000 in
theorem p93_j32_w (F : Nat) (a0 : Int32) (K4 : HS → Int32 → Int32 → Option (Int32 × HS)) (hK4 : ∀ (h : HS) (w : WF h) (u2 : Int32) (u3 : Int32) (r : Int32 × HS), K4 h u2 u3 = some r → WF r.2) (h : HS) (w : WF h) (v2 : Int32) (v3 : Int32) (r : Int32 × HS) (hp : p93_j32 F a0 K4 h v2 v3 = some r) : WF r.2 := by
  unfold p93_j32 at hp
  exact hK4 (h) (w) (v2) ((v3) + 1) _ hp
set_option maxRecDepth 100000 in
set_option maxHeartbeats 4000000 in
theorem p93_L4_ok (d : Nat) (F : Nat) (a0 : Int32) : ∀ (n : Nat) (h : HS) (w : WF h) (v2 : Int32) (v3 : Int32) (r : Int32 × HS), p93_L4 F a0 n h v2 v3 = some r → ex (d + 0) 93 (4, [some (.ref (33)), some (.int (a0)), some (.int (v2)), some (.int (v3))], [], h) = some (some (.int (r.1)), r.2) := by
  intro n
  induction n with
  | zero => intro h w v2 v3 r hp; cases hp
  | succ n ih =>
    intro h w v2 v3 r hp
    unfold p93_L4 at hp
    refine e_iload_n f93_4 rfl ?_
    refine e_aload_n f93_5 rfl ?_
    refine e_getI f93_6 (WF.t w 33 (by decide)) (by decide) ?_
    by_cases hc1 : (v3) < ((hI (h) (33) 1) : Int32)
    · rw [if_pos hc1] at hp
      refine e_icmp_ge_f f93_9 hc1 ?_
      refine e_aload_n f93_12 rfl ?_
      refine e_getR f93_13 (WF.t w 33 (by decide)) rfl (WF.r (q := 37) w 33 5 (by decide)) ?_
      refine e_iload_n f93_16 rfl ?_
      by_cases hg2 : (v3) < (0 : Int32) ∨ 200 ≤ (v3).toNatClampNeg
      · rw [if_pos hg2] at hp; cases hp
      rw [if_neg hg2] at hp
      refine e_iaload f93_17 (Or.inl (WF.t w 37 (by decide))) (WF.n w 37 (by decide)) hg2 ?_
      refine e_iload_n f93_18 rfl ?_
      by_cases hc3 : (hI (h) (37) (v3).toNatClampNeg) = ((a0) : Int32)
      · rw [if_pos hc3] at hp
        refine e_icmp_ne_f f93_19 hc3 ?_
        refine e_aload_n f93_22 rfl ?_
        refine e_getR f93_23 (WF.t w 33 (by decide)) rfl (WF.r (q := 37) w 33 5 (by decide)) ?_
        refine e_iload_n f93_26 rfl ?_
        refine e_iconst (v := -1) f93_27 (by decide) ?_
        by_cases hg4 : (v3) < (0 : Int32) ∨ 200 ≤ (v3).toNatClampNeg
        · rw [if_pos hg4] at hp; cases hp
        rw [if_neg hg4] at hp
        refine e_iastore f93_28 (WF.t w 37 (by decide)) (WF.n w 37 (by decide)) hg4 ?_
        refine e_iinc (ls2 := [some (.ref (33)), some (.int (a0)), some (.int ((v2) + 1)), some (.int (v3))]) f93_29 (by decide) rfl rfl ?_
        refine ex_weak (ls := [some (.ref (33)), some (.int (a0)), some (.int ((v2) + 1)), some (.int (v3))]) (le2_ok ⟨Or.inr rfl, Or.inr rfl, Or.inr rfl, Or.inr rfl, trivial⟩) ?_
        exact p93_j32_ok d F a0 ((p93_L4 F a0 n)) (ih) (hsI (h) (37) (v3).toNatClampNeg ((-1))) (w) ((v2) + 1) (v3) _ hp
      · rw [if_neg hc3] at hp
        refine e_icmp_ne_t f93_19 hc3 ?_
        refine ex_weak (ls := [some (.ref (33)), some (.int (a0)), some (.int (v2)), some (.int (v3))]) (le2_ok ⟨Or.inr rfl, Or.inr rfl, Or.inr rfl, Or.inr rfl, trivial⟩) ?_
        exact p93_j32_ok d F a0 ((p93_L4 F a0 n)) (ih) (h) (w) (v2) (v3) _ hp
    · rw [if_neg hc1] at hp
      refine e_icmp_ge_t f93_9 hc1 ?_
      refine e_iload_n f93_38 rfl ?_
      have hp := Option.some.inj hp
      subst hp
      exact e_ireturn f93_39 (Or.inl rfl)
set_option maxRecDepth 100000 in
set_option maxHeartbeats 4000000 in
theorem p93_L4_w (F : Nat) (a0 : Int32) : ∀ (n : Nat) (h : HS) (w : WF h) (v2 : Int32) (v3 : Int32) (r : Int32 × HS), p93_L4 F a0 n h v2 v3 = some r → WF r.2 := by
  intro n
  induction n with
  | zero => intro h w v2 v3 r hp; cases hp
  | succ n ih =>
    intro h w v2 v3 r hp
    unfold p93_L4 at hp
    by_cases hc1 : (v3) < ((hI (h) (33) 1) : Int32)
    · rw [if_pos hc1] at hp
      by_cases hg2 : (v3) < (0 : Int32) ∨ 200 ≤ (v3).toNatClampNeg
      · rw [if_pos hg2] at hp; cases hp
      rw [if_neg hg2] at hp
      by_cases hc3 : (hI (h) (37) (v3).toNatClampNeg) = ((a0) : Int32)
      · rw [if_pos hc3] at hp
        by_cases hg4 : (v3) < (0 : Int32) ∨ 200 ≤ (v3).toNatClampNeg
        · rw [if_pos hg4] at hp; cases hp
        rw [if_neg hg4] at hp
        exact p93_j32_w F a0 ((p93_L4 F a0 n)) (ih) (hsI (h) (37) (v3).toNatClampNeg ((-1))) (w) ((v2) + 1) (v3) _ hp
      · rw [if_neg hc3] at hp
        exact p93_j32_w F a0 ((p93_L4 F a0 n)) (ih) (h) (w) (v2) (v3) _ hp
    · rw [if_neg hc1] at hp
      have hp := Option.some.inj hp
      subst hp
      exact (w)
set_option maxRecDepth 100000 in
set_option maxHeartbeats 4000000 in
theorem p93_ok (d : Nat) (F : Nat) (h : HS) (w : WF h) (a0 : Int32) (r : Int32 × HS) (hp : p93 F h a0 = some r) : ex (d + 0) 93 (ent 93 [.ref (33), .int (a0)] h) = some (some (.int (r.1)), r.2) := by
  rw [show ent 93 [.ref (33), .int (a0)] h = (0, [some (.ref (33)), some (.int (a0)), none, none], [], h) from by  rfl]
  refine ex_weak (ls := [some (.ref (33)), some (.int (a0)), none, none]) (le2_ok ⟨Or.inr rfl, Or.inr rfl, Or.inr rfl, Or.inr rfl, trivial⟩) ?_
  unfold p93 at hp
  refine e_iconst (v := 0) f93_0 (by decide) ?_
  refine e_istore_n (ls2 := [some (.ref (33)), some (.int (a0)), some (.int (0)), none]) f93_1 (Nat.le_of_ble_eq_true rfl) rfl ?_
  refine e_iconst (v := 0) f93_2 (by decide) ?_
  refine e_istore_n (ls2 := [some (.ref (33)), some (.int (a0)), some (.int (0)), some (.int (0))]) f93_3 (Nat.le_of_ble_eq_true rfl) rfl ?_
  refine ex_weak (ls := [some (.ref (33)), some (.int (a0)), some (.int (0)), some (.int (0))]) (le2_ok ⟨Or.inr rfl, Or.inr rfl, Or.inr rfl, Or.inr rfl, trivial⟩) ?_
  exact p93_L4_ok d F a0 F (h) (w) (0) (0) _ hp
set_option maxRecDepth 100000 in
set_option maxHeartbeats 4000000 in
theorem p93_w (F : Nat) (h : HS) (w : WF h) (a0 : Int32) (r : Int32 × HS) (hp : p93 F h a0 = some r) : WF r.2 := by
  unfold p93 at hp
  exact p93_L4_w F a0 F (h) (w) (0) (0) _ hp
theorem f94_0 : fetch 94 0 = some (.aload_n 0, 0, 0, 0) := rfl
theorem f94_1 : fetch 94 1 = some (.invokespecial 3, 0, 0, 5) := rfl
theorem f94_4 : fetch 94 4 = some (.aload_n 0, 0, 0, 0) := rfl
theorem f94_5 : fetch 94 5 = some (.sipush 4000, 0, 0, 0) := rfl
theorem f94_8 : fetch 94 8 = some (.putfield 9, 9, 2, 0) := rfl
theorem f94_11 : fetch 94 11 = some (.aload_n 0, 0, 0, 0) := rfl
theorem f94_12 : fetch 94 12 = some (.sipush 4000, 0, 0, 0) := rfl
theorem f94_15 : fetch 94 15 = some (.putfield 15, 9, 3, 0) := rfl
theorem f94_18 : fetch 94 18 = some (.aload_n 0, 0, 0, 0) := rfl
theorem f94_19 : fetch 94 19 = some (.bipush 20, 0, 0, 0) := rfl
theorem f94_21 : fetch 94 21 = some (.newarray .long, 23, 0, 0) := rfl
theorem f94_23 : fetch 94 23 = some (.putfield 18, 9, 8, 2) := rfl
theorem f94_26 : fetch 94 26 = some (.aload_n 0, 0, 0, 0) := rfl
theorem f94_27 : fetch 94 27 = some (.bipush 20, 0, 0, 0) := rfl
theorem f94_29 : fetch 94 29 = some (.newarray .int, 20, 0, 0) := rfl
theorem f94_31 : fetch 94 31 = some (.putfield 22, 9, 9, 2) := rfl
theorem f94_34 : fetch 94 34 = some (.aload_n 0, 0, 0, 0) := rfl
theorem f94_35 : fetch 94 35 = some (.bipush 20, 0, 0, 0) := rfl
theorem f94_37 : fetch 94 37 = some (.newarray .int, 20, 0, 0) := rfl
theorem f94_39 : fetch 94 39 = some (.putfield 26, 9, 10, 2) := rfl
theorem f94_42 : fetch 94 42 = some (.aload_n 0, 0, 0, 0) := rfl
theorem f94_43 : fetch 94 43 = some (.bipush 20, 0, 0, 0) := rfl
theorem f94_45 : fetch 94 45 = some (.newarray .int, 20, 0, 0) := rfl
theorem f94_47 : fetch 94 47 = some (.putfield 29, 9, 11, 2) := rfl
theorem f94_50 : fetch 94 50 = some (.aload_n 0, 0, 0, 0) := rfl
theorem f94_51 : fetch 94 51 = some (.bipush 20, 0, 0, 0) := rfl
theorem f94_53 : fetch 94 53 = some (.newarray .int, 20, 0, 0) := rfl
theorem f94_55 : fetch 94 55 = some (.putfield 32, 9, 12, 2) := rfl
theorem f94_58 : fetch 94 58 = some (.aload_n 0, 0, 0, 0) := rfl
theorem f94_59 : fetch 94 59 = some (.iload_n 1, 0, 0, 0) := rfl
theorem f94_60 : fetch 94 60 = some (.putfield 35, 9, 0, 0) := rfl
theorem f94_63 : fetch 94 63 = some (.aload_n 0, 0, 0, 0) := rfl
theorem f94_64 : fetch 94 64 = some (.iload_n 2, 0, 0, 0) := rfl
theorem f94_65 : fetch 94 65 = some (.putfield 38, 9, 1, 0) := rfl
theorem f94_68 : fetch 94 68 = some (.return_, 0, 0, 0) := rfl
set_option maxRecDepth 100000 in
set_option maxHeartbeats 4000000 in
theorem p94_ok (d : Nat) (h : HS) (w : WF h) (o : Nat) (a0 : Int32) (a1 : Int32) (ho : hT h o = 9) (r : HS) (hp : p94 h o a0 a1 = some r) : ex (d + 0) 94 (ent 94 [.ref (o), .int (a0), .int (a1)] h) = some (none, r) := by
  rw [show ent 94 [.ref (o), .int (a0), .int (a1)] h = (0, [some (.ref (o)), some (.int (a0)), some (.int (a1))], [], h) from by  rfl]
  refine ex_weak (ls := [some (.ref (o)), some (.int (a0)), some (.int (a1))]) (le2_ok ⟨Or.inr rfl, Or.inr rfl, Or.inr rfl, trivial⟩) ?_
  unfold p94 at hp
  refine e_aload_n f94_0 rfl ?_
  refine e_obj f94_1 rfl (Nat.le_of_ble_eq_true rfl) ?_
  refine e_aload_n f94_4 rfl ?_
  refine e_sipush (v := 4000) f94_5 (by decide) ?_
  refine e_putI f94_8 ho rfl ?_
  refine e_aload_n f94_11 rfl ?_
  refine e_sipush (v := 4000) f94_12 (by decide) ?_
  refine e_putI f94_15 ho rfl ?_
  refine e_aload_n f94_18 rfl ?_
  refine e_bipush (v := 20) f94_19 (by decide) ?_
  refine e_newarray f94_21 (by decide) ?_
  obtain ⟨h1, e2, hp⟩ := bind_some hp
  try dsimp only at hp
  have e2 := Option.some.inj e2
  have w3 : WF h1 := e2 ▸ (WF.nw (t := 23) (n := (20 : Int32).toNatClampNeg) (f := fun _ => 0) w)
  rw [e2]
  by_cases hg4 : hT (h1) (o) = 9
  rotate_left
  · rw [if_neg hg4] at hp; cases hp
  rw [if_pos hg4] at hp
  refine e_putR f94_23 hg4 rfl ?_
  refine e_aload_n f94_26 rfl ?_
  refine e_bipush (v := 20) f94_27 (by decide) ?_
  refine e_newarray f94_29 (by decide) ?_
  obtain ⟨h5, e6, hp⟩ := bind_some hp
  try dsimp only at hp
  have e6 := Option.some.inj e6
  have w7 : WF h5 := e6 ▸ (WF.nw (t := 20) (n := (20 : Int32).toNatClampNeg) (f := fun _ => 0) (WF.rr (j := 8) (v := some ((hsI (hsI (h) (o) 2 (4000)) (o) 3 (4000)).1)) w3 (o) (WF.own w3 hg4)))
  rw [e6]
  by_cases hg8 : hT (h5) (o) = 9
  rotate_left
  · rw [if_neg hg8] at hp; cases hp
  rw [if_pos hg8] at hp
  refine e_putR f94_31 hg8 rfl ?_
  obtain ⟨h9, e10, hp⟩ := bind_some hp
  try dsimp only at hp
  have e10 := Option.some.inj e10
  have w11 : WF h9 := e10 ▸ (WF.rr (j := 9) (v := some ((hsR (h1) (o) 8 (some ((hsI (hsI (h) (o) 2 (4000)) (o) 3 (4000)).1))).1)) w7 (o) (WF.own w7 hg8))
  rw [e10]
  refine e_aload_n f94_34 rfl ?_
  refine e_bipush (v := 20) f94_35 (by decide) ?_
  refine e_newarray f94_37 (by decide) ?_
  obtain ⟨h12, e13, hp⟩ := bind_some hp
  try dsimp only at hp
  have e13 := Option.some.inj e13
  have w14 : WF h12 := e13 ▸ (WF.nw (t := 20) (n := (20 : Int32).toNatClampNeg) (f := fun _ => 0) w11)
  rw [e13]
  by_cases hg15 : hT (h12) (o) = 9
  rotate_left
  · rw [if_neg hg15] at hp; cases hp
  rw [if_pos hg15] at hp
  refine e_putR f94_39 hg15 rfl ?_
  refine e_aload_n f94_42 rfl ?_
  refine e_bipush (v := 20) f94_43 (by decide) ?_
  refine e_newarray f94_45 (by decide) ?_
  obtain ⟨h16, e17, hp⟩ := bind_some hp
  try dsimp only at hp
  have e17 := Option.some.inj e17
  have w18 : WF h16 := e17 ▸ (WF.nw (t := 20) (n := (20 : Int32).toNatClampNeg) (f := fun _ => 0) (WF.rr (j := 10) (v := some ((h9).1)) w14 (o) (WF.own w14 hg15)))
  rw [e17]
  by_cases hg19 : hT (h16) (o) = 9
  rotate_left
  · rw [if_neg hg19] at hp; cases hp
  rw [if_pos hg19] at hp
  refine e_putR f94_47 hg19 rfl ?_
  refine e_aload_n f94_50 rfl ?_
  refine e_bipush (v := 20) f94_51 (by decide) ?_
  refine e_newarray f94_53 (by decide) ?_
  obtain ⟨h20, e21, hp⟩ := bind_some hp
  try dsimp only at hp
  have e21 := Option.some.inj e21
  have w22 : WF h20 := e21 ▸ (WF.nw (t := 20) (n := (20 : Int32).toNatClampNeg) (f := fun _ => 0) (WF.rr (j := 11) (v := some ((hsR (h12) (o) 10 (some ((h9).1))).1)) w18 (o) (WF.own w18 hg19)))
  rw [e21]
  by_cases hg23 : hT (h20) (o) = 9
  rotate_left
  · rw [if_neg hg23] at hp; cases hp
  rw [if_pos hg23] at hp
  refine e_putR f94_55 hg23 rfl ?_
  obtain ⟨h24, e25, hp⟩ := bind_some hp
  try dsimp only at hp
  have e25 := Option.some.inj e25
  have w26 : WF h24 := e25 ▸ (WF.rr (j := 12) (v := some ((hsR (h16) (o) 11 (some ((hsR (h12) (o) 10 (some ((h9).1))).1))).1)) w22 (o) (WF.own w22 hg23))
  rw [e25]
  refine e_aload_n f94_58 rfl ?_
  refine e_iload_n f94_59 rfl ?_
  refine e_putI f94_60 (by rw [← e25]; exact hg23) rfl ?_
  refine e_aload_n f94_63 rfl ?_
  refine e_iload_n f94_64 rfl ?_
  refine e_putI f94_65 (by rw [← e25]; exact hg23) rfl ?_
  have hp := Option.some.inj hp
  subst hp
  exact e_return f94_68
set_option maxRecDepth 100000 in
set_option maxHeartbeats 4000000 in
theorem p94_w (h : HS) (w : WF h) (o : Nat) (a0 : Int32) (a1 : Int32) (ho : hT h o = 9) (r : HS) (hp : p94 h o a0 a1 = some r) : WF r := by
  unfold p94 at hp
  obtain ⟨h1, e2, hp⟩ := bind_some hp
  try dsimp only at hp
  have e2 := Option.some.inj e2
  have w3 : WF h1 := e2 ▸ (WF.nw (t := 23) (n := (20 : Int32).toNatClampNeg) (f := fun _ => 0) w)
  by_cases hg4 : hT (h1) (o) = 9
  rotate_left
  · rw [if_neg hg4] at hp; cases hp
  rw [if_pos hg4] at hp
  obtain ⟨h5, e6, hp⟩ := bind_some hp
  try dsimp only at hp
  have e6 := Option.some.inj e6
  have w7 : WF h5 := e6 ▸ (WF.nw (t := 20) (n := (20 : Int32).toNatClampNeg) (f := fun _ => 0) (WF.rr (j := 8) (v := some ((hsI (hsI (h) (o) 2 (4000)) (o) 3 (4000)).1)) w3 (o) (WF.own w3 hg4)))
  by_cases hg8 : hT (h5) (o) = 9
  rotate_left
  · rw [if_neg hg8] at hp; cases hp
  rw [if_pos hg8] at hp
  obtain ⟨h9, e10, hp⟩ := bind_some hp
  try dsimp only at hp
  have e10 := Option.some.inj e10
  have w11 : WF h9 := e10 ▸ (WF.rr (j := 9) (v := some ((hsR (h1) (o) 8 (some ((hsI (hsI (h) (o) 2 (4000)) (o) 3 (4000)).1))).1)) w7 (o) (WF.own w7 hg8))
  obtain ⟨h12, e13, hp⟩ := bind_some hp
  try dsimp only at hp
  have e13 := Option.some.inj e13
  have w14 : WF h12 := e13 ▸ (WF.nw (t := 20) (n := (20 : Int32).toNatClampNeg) (f := fun _ => 0) w11)
  by_cases hg15 : hT (h12) (o) = 9
  rotate_left
  · rw [if_neg hg15] at hp; cases hp
  rw [if_pos hg15] at hp
  obtain ⟨h16, e17, hp⟩ := bind_some hp
  try dsimp only at hp
  have e17 := Option.some.inj e17
  have w18 : WF h16 := e17 ▸ (WF.nw (t := 20) (n := (20 : Int32).toNatClampNeg) (f := fun _ => 0) (WF.rr (j := 10) (v := some ((h9).1)) w14 (o) (WF.own w14 hg15)))
  by_cases hg19 : hT (h16) (o) = 9
  rotate_left
  · rw [if_neg hg19] at hp; cases hp
  rw [if_pos hg19] at hp
  obtain ⟨h20, e21, hp⟩ := bind_some hp
  try dsimp only at hp
  have e21 := Option.some.inj e21
  have w22 : WF h20 := e21 ▸ (WF.nw (t := 20) (n := (20 : Int32).toNatClampNeg) (f := fun _ => 0) (WF.rr (j := 11) (v := some ((hsR (h12) (o) 10 (some ((h9).1))).1)) w18 (o) (WF.own w18 hg19)))
  by_cases hg23 : hT (h20) (o) = 9
  rotate_left
  · rw [if_neg hg23] at hp; cases hp
  rw [if_pos hg23] at hp
  obtain ⟨h24, e25, hp⟩ := bind_some hp
  try dsimp only at hp
  have e25 := Option.some.inj e25
  have w26 : WF h24 := e25 ▸ (WF.rr (j := 12) (v := some ((hsR (h16) (o) 11 (some ((hsR (h12) (o) 10 (some ((h9).1))).1))).1)) w22 (o) (WF.own w22 hg23))
  have hp := Option.some.inj hp
  subst hp
  exact (w26)
theorem f95_0 : fetch 95 0 = some (.iload_n 1, 0, 0, 0) := rfl
theorem f95_1 : fetch 95 1 = some (.iconst 0, 0, 0, 0) := rfl
theorem f95_2 : fetch 95 2 = some (.aload_n 0, 0, 0, 0) := rfl
theorem f95_3 : fetch 95 3 = some (.getfield 41, 9, 7, 0) := rfl
theorem f95_6 : fetch 95 6 = some (.iconst 1, 0, 0, 0) := rfl
theorem f95_7 : fetch 95 7 = some (.isub, 0, 0, 0) := rfl
theorem f95_8 : fetch 95 8 = some (.invokestatic 44, 166, 3, 2) := rfl
theorem f95_11 : fetch 95 11 = some (.ireturn, 0, 0, 1) := rfl
set_option maxRecDepth 100000 in
set_option maxHeartbeats 4000000 in
theorem p95_ok (d : Nat) (h : HS) (w : WF h) (o : Nat) (a0 : Int32) (ho : hT h o = 9) (r : Int32) (hp : p95 h o a0 = some r) : ex (d + 1) 95 (ent 95 [.ref (o), .int (a0)] h) = some (some (.int (r)), h) := by
  rw [show ent 95 [.ref (o), .int (a0)] h = (0, [some (.ref (o)), some (.int (a0))], [], h) from by  rfl]
  refine ex_weak (ls := [some (.ref (o)), some (.int (a0))]) (le2_ok ⟨Or.inr rfl, Or.inr rfl, trivial⟩) ?_
  unfold p95 at hp
  refine e_iload_n f95_0 rfl ?_
  refine e_iconst (v := 0) f95_1 (by decide) ?_
  refine e_aload_n f95_2 rfl ?_
  refine e_getI f95_3 ho (by decide) ?_
  refine e_iconst (v := 1) f95_6 (by decide) ?_
  refine e_isub f95_7 ?_
  obtain ⟨r1, hr2, hp⟩ := bind_some hp
  try dsimp only at hp
  refine e_callS (st := []) (as := [.int (a0), .int (0), .int ((hI (h) (o) 7) - (1))]) f95_8 (by decide) rfl rfl (Nat.le_of_ble_eq_true rfl) (Nat.le_of_ble_eq_true rfl) (p166_ok d (h) w (a0) (0) ((hI (h) (o) 7) - (1)) r1 hr2) ?_
  show ex _ 95 (11, [some (.ref (o)), some (.int (a0))], [.int (r1)], h) = _
  by_cases hg3 : (r1) = (0 : Int32) ∨ (r1) = (1 : Int32)
  rotate_left
  · rw [if_neg hg3] at hp; cases hp
  rw [if_pos hg3] at hp
  have hp := Option.some.inj hp
  subst hp
  exact e_ireturn f95_11 (Or.inr hg3)
theorem f96_0 : fetch 96 0 = some (.aload_n 0, 0, 0, 0) := rfl
theorem f96_1 : fetch 96 1 = some (.getfield 18, 9, 8, 2) := rfl
theorem f96_4 : fetch 96 4 = some (.aload_n 0, 0, 0, 0) := rfl
theorem f96_5 : fetch 96 5 = some (.getfield 41, 9, 7, 0) := rfl
theorem f96_8 : fetch 96 8 = some (.lload_n 1, 0, 0, 0) := rfl
theorem f96_9 : fetch 96 9 = some (.lastore, 0, 0, 0) := rfl
theorem f96_10 : fetch 96 10 = some (.aload_n 0, 0, 0, 0) := rfl
theorem f96_11 : fetch 96 11 = some (.getfield 22, 9, 9, 2) := rfl
theorem f96_14 : fetch 96 14 = some (.aload_n 0, 0, 0, 0) := rfl
theorem f96_15 : fetch 96 15 = some (.getfield 41, 9, 7, 0) := rfl
theorem f96_18 : fetch 96 18 = some (.iload_n 3, 0, 0, 0) := rfl
theorem f96_19 : fetch 96 19 = some (.iastore, 0, 0, 0) := rfl
theorem f96_20 : fetch 96 20 = some (.aload_n 0, 0, 0, 0) := rfl
theorem f96_21 : fetch 96 21 = some (.getfield 26, 9, 10, 2) := rfl
theorem f96_24 : fetch 96 24 = some (.aload_n 0, 0, 0, 0) := rfl
theorem f96_25 : fetch 96 25 = some (.getfield 41, 9, 7, 0) := rfl
theorem f96_28 : fetch 96 28 = some (.iload 4, 0, 0, 0) := rfl
theorem f96_30 : fetch 96 30 = some (.iastore, 0, 0, 0) := rfl
theorem f96_31 : fetch 96 31 = some (.aload_n 0, 0, 0, 0) := rfl
theorem f96_32 : fetch 96 32 = some (.dup, 0, 0, 0) := rfl
theorem f96_33 : fetch 96 33 = some (.getfield 41, 9, 7, 0) := rfl
theorem f96_36 : fetch 96 36 = some (.dup_x1, 0, 0, 0) := rfl
theorem f96_37 : fetch 96 37 = some (.iconst 1, 0, 0, 0) := rfl
theorem f96_38 : fetch 96 38 = some (.iadd, 0, 0, 0) := rfl
theorem f96_39 : fetch 96 39 = some (.putfield 41, 9, 7, 0) := rfl
theorem f96_42 : fetch 96 42 = some (.ireturn, 0, 0, 0) := rfl
set_option maxRecDepth 100000 in
set_option maxHeartbeats 4000000 in
theorem p96_ok (d : Nat) (h : HS) (w : WF h) (o : Nat) (a0 : Int64) (a1 : Int32) (a2 : Int32) (ho : hT h o = 9) (r : Int32 × HS) (hp : p96 h o a0 a1 a2 = some r) : ex (d + 0) 96 (ent 96 [.ref (o), .long (a0), .int (a1), .int (a2)] h) = some (some (.int (r.1)), r.2) := by
  rw [show ent 96 [.ref (o), .long (a0), .int (a1), .int (a2)] h = (0, [some (.ref (o)), some (.long (a0)), none, some (.int (a1)), some (.int (a2))], [], h) from by  rfl]
  refine ex_weak (ls := [some (.ref (o)), some (.long (a0)), none, some (.int (a1)), some (.int (a2))]) (le2_ok ⟨Or.inr rfl, Or.inr rfl, Or.inr rfl, Or.inr rfl, Or.inr rfl, trivial⟩) ?_
  unfold p96 at hp
  refine e_aload_n f96_0 rfl ?_
  refine e_getQ f96_1 ho rfl ?_
  refine e_aload_n f96_4 rfl ?_
  refine e_getI f96_5 ho (by decide) ?_
  refine e_lload_n f96_8 rfl ?_
  obtain ⟨o1, ho2, hp⟩ := bind_some hp
  try dsimp only at hp
  rw [ho2]
  by_cases hg3 : hT (h) (o1) = 23
  rotate_left
  · rw [if_neg hg3] at hp; cases hp
  rw [if_pos hg3] at hp
  by_cases hg4 : (hI (h) (o) 7) < (0 : Int32) ∨ hN (h) (o1) ≤ (hI (h) (o) 7).toNatClampNeg
  · rw [if_pos hg4] at hp; cases hp
  rw [if_neg hg4] at hp
  refine e_lastore f96_9 hg3 rfl hg4 ?_
  refine e_aload_n f96_10 rfl ?_
  refine e_getQ f96_11 ho rfl ?_
  refine e_aload_n f96_14 rfl ?_
  refine e_getI f96_15 ho (by decide) ?_
  refine e_iload_n f96_18 rfl ?_
  obtain ⟨o5, ho6, hp⟩ := bind_some hp
  try dsimp only at hp
  rw [ho6]
  by_cases hg7 : hT (hsL (h) (o1) (hI (h) (o) 7).toNatClampNeg (a0)) (o5) = 20
  rotate_left
  · rw [if_neg hg7] at hp; cases hp
  rw [if_pos hg7] at hp
  by_cases hg8 : (hI (hsL (h) (o1) (hI (h) (o) 7).toNatClampNeg (a0)) (o) 7) < (0 : Int32) ∨ hN (hsL (h) (o1) (hI (h) (o) 7).toNatClampNeg (a0)) (o5) ≤ (hI (hsL (h) (o1) (hI (h) (o) 7).toNatClampNeg (a0)) (o) 7).toNatClampNeg
  · rw [if_pos hg8] at hp; cases hp
  rw [if_neg hg8] at hp
  refine e_iastore f96_19 hg7 rfl hg8 ?_
  obtain ⟨h9, e10, hp⟩ := bind_some hp
  try dsimp only at hp
  have e10 := Option.some.inj e10
  have w11 : WF h9 := e10 ▸ w
  rw [e10]
  refine e_aload_n f96_20 rfl ?_
  refine e_getQ f96_21 (by rw [← e10]; exact ho) rfl ?_
  refine e_aload_n f96_24 rfl ?_
  refine e_getI f96_25 (by rw [← e10]; exact ho) (by decide) ?_
  refine e_iload f96_28 rfl ?_
  obtain ⟨o12, ho13, hp⟩ := bind_some hp
  try dsimp only at hp
  rw [ho13]
  by_cases hg14 : hT (h9) (o12) = 20
  rotate_left
  · rw [if_neg hg14] at hp; cases hp
  rw [if_pos hg14] at hp
  by_cases hg15 : (hI (h9) (o) 7) < (0 : Int32) ∨ hN (h9) (o12) ≤ (hI (h9) (o) 7).toNatClampNeg
  · rw [if_pos hg15] at hp; cases hp
  rw [if_neg hg15] at hp
  refine e_iastore f96_30 hg14 rfl hg15 ?_
  refine e_aload_n f96_31 rfl ?_
  refine e_dup f96_32 rfl ?_
  refine e_getI f96_33 (by rw [← e10]; exact ho) (by decide) ?_
  refine e_dup_x1 f96_36 rfl rfl ?_
  refine e_iconst (v := 1) f96_37 (by decide) ?_
  refine e_iadd f96_38 ?_
  refine e_putI f96_39 (by rw [← e10]; exact ho) rfl ?_
  obtain ⟨h16, e17, hp⟩ := bind_some hp
  try dsimp only at hp
  have e17 := Option.some.inj e17
  have w18 : WF h16 := e17 ▸ w11
  rw [e17]
  have hp := Option.some.inj hp
  subst hp
  exact e_ireturn f96_42 (Or.inl rfl)
set_option maxRecDepth 100000 in
set_option maxHeartbeats 4000000 in
theorem p96_w (h : HS) (w : WF h) (o : Nat) (a0 : Int64) (a1 : Int32) (a2 : Int32) (ho : hT h o = 9) (r : Int32 × HS) (hp : p96 h o a0 a1 a2 = some r) : WF r.2 := by
  unfold p96 at hp
  obtain ⟨o1, ho2, hp⟩ := bind_some hp
  try dsimp only at hp
  by_cases hg3 : hT (h) (o1) = 23
  rotate_left
  · rw [if_neg hg3] at hp; cases hp
  rw [if_pos hg3] at hp
  by_cases hg4 : (hI (h) (o) 7) < (0 : Int32) ∨ hN (h) (o1) ≤ (hI (h) (o) 7).toNatClampNeg
  · rw [if_pos hg4] at hp; cases hp
  rw [if_neg hg4] at hp
  obtain ⟨o5, ho6, hp⟩ := bind_some hp
  try dsimp only at hp
  by_cases hg7 : hT (hsL (h) (o1) (hI (h) (o) 7).toNatClampNeg (a0)) (o5) = 20
  rotate_left
  · rw [if_neg hg7] at hp; cases hp
  rw [if_pos hg7] at hp
  by_cases hg8 : (hI (hsL (h) (o1) (hI (h) (o) 7).toNatClampNeg (a0)) (o) 7) < (0 : Int32) ∨ hN (hsL (h) (o1) (hI (h) (o) 7).toNatClampNeg (a0)) (o5) ≤ (hI (hsL (h) (o1) (hI (h) (o) 7).toNatClampNeg (a0)) (o) 7).toNatClampNeg
  · rw [if_pos hg8] at hp; cases hp
  rw [if_neg hg8] at hp
  obtain ⟨h9, e10, hp⟩ := bind_some hp
  try dsimp only at hp
  have e10 := Option.some.inj e10
  have w11 : WF h9 := e10 ▸ w
  obtain ⟨o12, ho13, hp⟩ := bind_some hp
  try dsimp only at hp
  by_cases hg14 : hT (h9) (o12) = 20
  rotate_left
  · rw [if_neg hg14] at hp; cases hp
  rw [if_pos hg14] at hp
  by_cases hg15 : (hI (h9) (o) 7) < (0 : Int32) ∨ hN (h9) (o12) ≤ (hI (h9) (o) 7).toNatClampNeg
  · rw [if_pos hg15] at hp; cases hp
  rw [if_neg hg15] at hp
  obtain ⟨h16, e17, hp⟩ := bind_some hp
  try dsimp only at hp
  have e17 := Option.some.inj e17
  have w18 : WF h16 := e17 ▸ w11
  have hp := Option.some.inj hp
  subst hp
  exact (w18)
theorem f97_0 : fetch 97 0 = some (.iload_n 3, 0, 0, 0) := rfl
theorem f97_1 : fetch 97 1 = some (.ifCond .ne 18, 19, 0, 0) := rfl
theorem f97_4 : fetch 97 4 = some (.aload_n 0, 0, 0, 0) := rfl
theorem f97_5 : fetch 97 5 = some (.getfield 29, 9, 11, 2) := rfl
theorem f97_8 : fetch 97 8 = some (.iload_n 1, 0, 0, 0) := rfl
theorem f97_9 : fetch 97 9 = some (.dup2, 0, 0, 0) := rfl
theorem f97_10 : fetch 97 10 = some (.iaload, 0, 0, 0) := rfl
theorem f97_11 : fetch 97 11 = some (.iconst 1, 0, 0, 0) := rfl
theorem f97_12 : fetch 97 12 = some (.iload_n 2, 0, 0, 0) := rfl
theorem f97_13 : fetch 97 13 = some (.ishl, 0, 0, 0) := rfl
theorem f97_14 : fetch 97 14 = some (.ior, 0, 0, 0) := rfl
theorem f97_15 : fetch 97 15 = some (.iastore, 0, 0, 0) := rfl
theorem f97_16 : fetch 97 16 = some (.goto 20, 36, 0, 0) := rfl
theorem f97_19 : fetch 97 19 = some (.iload_n 3, 0, 0, 0) := rfl
theorem f97_20 : fetch 97 20 = some (.iconst 1, 0, 0, 0) := rfl
theorem f97_21 : fetch 97 21 = some (.if_icmp .ne 15, 36, 0, 0) := rfl
theorem f97_24 : fetch 97 24 = some (.aload_n 0, 0, 0, 0) := rfl
theorem f97_25 : fetch 97 25 = some (.getfield 32, 9, 12, 2) := rfl
theorem f97_28 : fetch 97 28 = some (.iload_n 1, 0, 0, 0) := rfl
theorem f97_29 : fetch 97 29 = some (.dup2, 0, 0, 0) := rfl
theorem f97_30 : fetch 97 30 = some (.iaload, 0, 0, 0) := rfl
theorem f97_31 : fetch 97 31 = some (.iconst 1, 0, 0, 0) := rfl
theorem f97_32 : fetch 97 32 = some (.iload_n 2, 0, 0, 0) := rfl
theorem f97_33 : fetch 97 33 = some (.ishl, 0, 0, 0) := rfl
theorem f97_34 : fetch 97 34 = some (.ior, 0, 0, 0) := rfl
theorem f97_35 : fetch 97 35 = some (.iastore, 0, 0, 0) := rfl
theorem f97_36 : fetch 97 36 = some (.return_, 0, 0, 0) := rfl
set_option maxRecDepth 100000 in
set_option maxHeartbeats 4000000 in
theorem p97_ok (d : Nat) (h : HS) (w : WF h) (o : Nat) (a0 : Int32) (a1 : Int32) (a2 : Int32) (ho : hT h o = 9) (r : HS) (hp : p97 h o a0 a1 a2 = some r) : ex (d + 0) 97 (ent 97 [.ref (o), .int (a0), .int (a1), .int (a2)] h) = some (none, r) := by
  rw [show ent 97 [.ref (o), .int (a0), .int (a1), .int (a2)] h = (0, [some (.ref (o)), some (.int (a0)), some (.int (a1)), some (.int (a2))], [], h) from by  rfl]
  refine ex_weak (ls := [some (.ref (o)), some (.int (a0)), some (.int (a1)), some (.int (a2))]) (le2_ok ⟨Or.inr rfl, Or.inr rfl, Or.inr rfl, Or.inr rfl, trivial⟩) ?_
  unfold p97 at hp
  refine e_iload_n f97_0 rfl ?_
  by_cases hc1 : (a2) = (0 : Int32)
  · rw [if_pos hc1] at hp
    refine e_if_ne_f f97_1 hc1 ?_
    refine e_aload_n f97_4 rfl ?_
    refine e_getQ f97_5 ho rfl ?_
    refine e_iload_n f97_8 rfl ?_
    refine e_dup2 f97_9 rfl (by cases (hR (h) (o) 11) <;> rfl) ?_
    obtain ⟨o2, ho3, hp⟩ := bind_some hp
    try dsimp only at hp
    rw [ho3]
    by_cases hg4 : hT (h) (o2) = 20
    rotate_left
    · rw [if_neg hg4] at hp; cases hp
    rw [if_pos hg4] at hp
    by_cases hg5 : (a0) < (0 : Int32) ∨ hN (h) (o2) ≤ (a0).toNatClampNeg
    · rw [if_pos hg5] at hp; cases hp
    rw [if_neg hg5] at hp
    refine e_iaload f97_10 (Or.inl hg4) rfl hg5 ?_
    refine e_iconst (v := 1) f97_11 (by decide) ?_
    refine e_iload_n f97_12 rfl ?_
    refine e_ishl f97_13 ?_
    refine e_ior f97_14 ?_
    by_cases hg6 : (a0) < (0 : Int32) ∨ hN (h) (o2) ≤ (a0).toNatClampNeg
    · rw [if_pos hg6] at hp; cases hp
    rw [if_neg hg6] at hp
    refine e_iastore f97_15 hg4 rfl hg6 ?_
    obtain ⟨h7, e8, hp⟩ := bind_some hp
    try dsimp only at hp
    have e8 := Option.some.inj e8
    have w9 : WF h7 := e8 ▸ w
    rw [e8]
    refine e_goto f97_16 ?_
    have hp := Option.some.inj hp
    subst hp
    exact e_return f97_36
  · rw [if_neg hc1] at hp
    refine e_if_ne_t f97_1 hc1 ?_
    refine e_iload_n f97_19 rfl ?_
    refine e_iconst (v := 1) f97_20 (by decide) ?_
    by_cases hc10 : (a2) = ((1) : Int32)
    · rw [if_pos hc10] at hp
      refine e_icmp_ne_f f97_21 hc10 ?_
      refine e_aload_n f97_24 rfl ?_
      refine e_getQ f97_25 ho rfl ?_
      refine e_iload_n f97_28 rfl ?_
      refine e_dup2 f97_29 rfl (by cases (hR (h) (o) 12) <;> rfl) ?_
      obtain ⟨o11, ho12, hp⟩ := bind_some hp
      try dsimp only at hp
      rw [ho12]
      by_cases hg13 : hT (h) (o11) = 20
      rotate_left
      · rw [if_neg hg13] at hp; cases hp
      rw [if_pos hg13] at hp
      by_cases hg14 : (a0) < (0 : Int32) ∨ hN (h) (o11) ≤ (a0).toNatClampNeg
      · rw [if_pos hg14] at hp; cases hp
      rw [if_neg hg14] at hp
      refine e_iaload f97_30 (Or.inl hg13) rfl hg14 ?_
      refine e_iconst (v := 1) f97_31 (by decide) ?_
      refine e_iload_n f97_32 rfl ?_
      refine e_ishl f97_33 ?_
      refine e_ior f97_34 ?_
      by_cases hg15 : (a0) < (0 : Int32) ∨ hN (h) (o11) ≤ (a0).toNatClampNeg
      · rw [if_pos hg15] at hp; cases hp
      rw [if_neg hg15] at hp
      refine e_iastore f97_35 hg13 rfl hg15 ?_
      obtain ⟨h16, e17, hp⟩ := bind_some hp
      try dsimp only at hp
      have e17 := Option.some.inj e17
      have w18 : WF h16 := e17 ▸ w
      rw [e17]
      have hp := Option.some.inj hp
      subst hp
      exact e_return f97_36
    · rw [if_neg hc10] at hp
      refine e_icmp_ne_t f97_21 hc10 ?_
      have hp := Option.some.inj hp
      subst hp
      exact e_return f97_36
set_option maxRecDepth 100000 in
set_option maxHeartbeats 4000000 in
theorem p97_w (h : HS) (w : WF h) (o : Nat) (a0 : Int32) (a1 : Int32) (a2 : Int32) (ho : hT h o = 9) (r : HS) (hp : p97 h o a0 a1 a2 = some r) : WF r := by
  unfold p97 at hp
  by_cases hc1 : (a2) = (0 : Int32)
  · rw [if_pos hc1] at hp
    obtain ⟨o2, ho3, hp⟩ := bind_some hp
    try dsimp only at hp
    by_cases hg4 : hT (h) (o2) = 20
    rotate_left
    · rw [if_neg hg4] at hp; cases hp
    rw [if_pos hg4] at hp
    by_cases hg5 : (a0) < (0 : Int32) ∨ hN (h) (o2) ≤ (a0).toNatClampNeg
    · rw [if_pos hg5] at hp; cases hp
    rw [if_neg hg5] at hp
    by_cases hg6 : (a0) < (0 : Int32) ∨ hN (h) (o2) ≤ (a0).toNatClampNeg
    · rw [if_pos hg6] at hp; cases hp
    rw [if_neg hg6] at hp
    obtain ⟨h7, e8, hp⟩ := bind_some hp
    try dsimp only at hp
    have e8 := Option.some.inj e8
    have w9 : WF h7 := e8 ▸ w
    have hp := Option.some.inj hp
    subst hp
    exact (w9)
  · rw [if_neg hc1] at hp
    by_cases hc10 : (a2) = ((1) : Int32)
    · rw [if_pos hc10] at hp
      obtain ⟨o11, ho12, hp⟩ := bind_some hp
      try dsimp only at hp
      by_cases hg13 : hT (h) (o11) = 20
      rotate_left
      · rw [if_neg hg13] at hp; cases hp
      rw [if_pos hg13] at hp
      by_cases hg14 : (a0) < (0 : Int32) ∨ hN (h) (o11) ≤ (a0).toNatClampNeg
      · rw [if_pos hg14] at hp; cases hp
      rw [if_neg hg14] at hp
      by_cases hg15 : (a0) < (0 : Int32) ∨ hN (h) (o11) ≤ (a0).toNatClampNeg
      · rw [if_pos hg15] at hp; cases hp
      rw [if_neg hg15] at hp
      obtain ⟨h16, e17, hp⟩ := bind_some hp
      try dsimp only at hp
      have e17 := Option.some.inj e17
      have w18 : WF h16 := e17 ▸ w
      have hp := Option.some.inj hp
      subst hp
      exact (w18)
    · rw [if_neg hc10] at hp
      have hp := Option.some.inj hp
      subst hp
      exact (w)
theorem f98_0 : fetch 98 0 = some (.aload_n 0, 0, 0, 0) := rfl
theorem f98_1 : fetch 98 1 = some (.getfield 29, 9, 11, 2) := rfl
theorem f98_4 : fetch 98 4 = some (.iload_n 1, 0, 0, 0) := rfl
theorem f98_5 : fetch 98 5 = some (.iaload, 0, 0, 0) := rfl
theorem f98_6 : fetch 98 6 = some (.iload_n 2, 0, 0, 0) := rfl
theorem f98_7 : fetch 98 7 = some (.iushr, 0, 0, 0) := rfl
theorem f98_8 : fetch 98 8 = some (.iconst 1, 0, 0, 0) := rfl
theorem f98_9 : fetch 98 9 = some (.iand, 0, 0, 0) := rfl
theorem f98_10 : fetch 98 10 = some (.ifCond .eq 10, 20, 0, 0) := rfl
theorem f98_13 : fetch 98 13 = some (.aload_n 0, 0, 0, 0) := rfl
theorem f98_14 : fetch 98 14 = some (.getfield 26, 9, 10, 2) := rfl
theorem f98_17 : fetch 98 17 = some (.iload_n 1, 0, 0, 0) := rfl
theorem f98_18 : fetch 98 18 = some (.iaload, 0, 0, 0) := rfl
theorem f98_19 : fetch 98 19 = some (.ireturn, 0, 0, 0) := rfl
theorem f98_20 : fetch 98 20 = some (.aload_n 0, 0, 0, 0) := rfl
theorem f98_21 : fetch 98 21 = some (.getfield 32, 9, 12, 2) := rfl
theorem f98_24 : fetch 98 24 = some (.iload_n 1, 0, 0, 0) := rfl
theorem f98_25 : fetch 98 25 = some (.iaload, 0, 0, 0) := rfl
theorem f98_26 : fetch 98 26 = some (.iload_n 2, 0, 0, 0) := rfl
theorem f98_27 : fetch 98 27 = some (.iushr, 0, 0, 0) := rfl
theorem f98_28 : fetch 98 28 = some (.iconst 1, 0, 0, 0) := rfl
theorem f98_29 : fetch 98 29 = some (.iand, 0, 0, 0) := rfl
theorem f98_30 : fetch 98 30 = some (.ifCond .eq 15, 45, 0, 0) := rfl
theorem f98_33 : fetch 98 33 = some (.bipush (-2), 0, 0, 0) := rfl
theorem f98_35 : fetch 98 35 = some (.aload_n 0, 0, 0, 0) := rfl
theorem f98_36 : fetch 98 36 = some (.getfield 22, 9, 9, 2) := rfl
theorem f98_39 : fetch 98 39 = some (.iload_n 1, 0, 0, 0) := rfl
theorem f98_40 : fetch 98 40 = some (.iaload, 0, 0, 0) := rfl
theorem f98_41 : fetch 98 41 = some (.isub, 0, 0, 0) := rfl
theorem f98_42 : fetch 98 42 = some (.goto 4, 46, 0, 0) := rfl
theorem f98_45 : fetch 98 45 = some (.iconst (-1), 0, 0, 0) := rfl
theorem f98_46 : fetch 98 46 = some (.ireturn, 0, 0, 0) := rfl
set_option maxRecDepth 100000 in
set_option maxHeartbeats 4000000 in
theorem p98_ok (d : Nat) (h : HS) (w : WF h) (o : Nat) (a0 : Int32) (a1 : Int32) (ho : hT h o = 9) (r : Int32) (hp : p98 h o a0 a1 = some r) : ex (d + 0) 98 (ent 98 [.ref (o), .int (a0), .int (a1)] h) = some (some (.int (r)), h) := by
  rw [show ent 98 [.ref (o), .int (a0), .int (a1)] h = (0, [some (.ref (o)), some (.int (a0)), some (.int (a1))], [], h) from by  rfl]
  refine ex_weak (ls := [some (.ref (o)), some (.int (a0)), some (.int (a1))]) (le2_ok ⟨Or.inr rfl, Or.inr rfl, Or.inr rfl, trivial⟩) ?_
  unfold p98 at hp
  refine e_aload_n f98_0 rfl ?_
  refine e_getQ f98_1 ho rfl ?_
  refine e_iload_n f98_4 rfl ?_
  obtain ⟨o1, ho2, hp⟩ := bind_some hp
  try dsimp only at hp
  rw [ho2]
  by_cases hg3 : hT (h) (o1) = 20
  rotate_left
  · rw [if_neg hg3] at hp; cases hp
  rw [if_pos hg3] at hp
  by_cases hg4 : (a0) < (0 : Int32) ∨ hN (h) (o1) ≤ (a0).toNatClampNeg
  · rw [if_pos hg4] at hp; cases hp
  rw [if_neg hg4] at hp
  refine e_iaload f98_5 (Or.inl hg3) rfl hg4 ?_
  refine e_iload_n f98_6 rfl ?_
  refine e_iushr f98_7 ?_
  refine e_iconst (v := 1) f98_8 (by decide) ?_
  refine e_iand f98_9 ?_
  by_cases hc5 : ((((hI (h) (o1) (a0).toNatClampNeg).toUInt32 >>> ((a1).toUInt32 &&& Int32.toUInt32 31)).toInt32) &&& (1)) = (0 : Int32)
  · rw [if_pos hc5] at hp
    refine e_if_eq_t f98_10 hc5 ?_
    refine e_aload_n f98_20 rfl ?_
    refine e_getQ f98_21 ho rfl ?_
    refine e_iload_n f98_24 rfl ?_
    obtain ⟨o6, ho7, hp⟩ := bind_some hp
    try dsimp only at hp
    rw [ho7]
    by_cases hg8 : hT (h) (o6) = 20
    rotate_left
    · rw [if_neg hg8] at hp; cases hp
    rw [if_pos hg8] at hp
    by_cases hg9 : (a0) < (0 : Int32) ∨ hN (h) (o6) ≤ (a0).toNatClampNeg
    · rw [if_pos hg9] at hp; cases hp
    rw [if_neg hg9] at hp
    refine e_iaload f98_25 (Or.inl hg8) rfl hg9 ?_
    refine e_iload_n f98_26 rfl ?_
    refine e_iushr f98_27 ?_
    refine e_iconst (v := 1) f98_28 (by decide) ?_
    refine e_iand f98_29 ?_
    by_cases hc10 : ((((hI (h) (o6) (a0).toNatClampNeg).toUInt32 >>> ((a1).toUInt32 &&& Int32.toUInt32 31)).toInt32) &&& (1)) = (0 : Int32)
    · rw [if_pos hc10] at hp
      refine e_if_eq_t f98_30 hc10 ?_
      refine e_iconst (v := -1) f98_45 (by decide) ?_
      have hp := Option.some.inj hp
      subst hp
      exact e_ireturn f98_46 (Or.inl rfl)
    · rw [if_neg hc10] at hp
      refine e_if_eq_f f98_30 hc10 ?_
      refine e_bipush (v := -2) f98_33 (by decide) ?_
      refine e_aload_n f98_35 rfl ?_
      refine e_getQ f98_36 ho rfl ?_
      refine e_iload_n f98_39 rfl ?_
      obtain ⟨o11, ho12, hp⟩ := bind_some hp
      try dsimp only at hp
      rw [ho12]
      by_cases hg13 : hT (h) (o11) = 20
      rotate_left
      · rw [if_neg hg13] at hp; cases hp
      rw [if_pos hg13] at hp
      by_cases hg14 : (a0) < (0 : Int32) ∨ hN (h) (o11) ≤ (a0).toNatClampNeg
      · rw [if_pos hg14] at hp; cases hp
      rw [if_neg hg14] at hp
      refine e_iaload f98_40 (Or.inl hg13) rfl hg14 ?_
      refine e_isub f98_41 ?_
      refine e_goto f98_42 ?_
      have hp := Option.some.inj hp
      subst hp
      exact e_ireturn f98_46 (Or.inl rfl)
  · rw [if_neg hc5] at hp
    refine e_if_eq_f f98_10 hc5 ?_
    refine e_aload_n f98_13 rfl ?_
    refine e_getQ f98_14 ho rfl ?_
    refine e_iload_n f98_17 rfl ?_
    obtain ⟨o15, ho16, hp⟩ := bind_some hp
    try dsimp only at hp
    rw [ho16]
    by_cases hg17 : hT (h) (o15) = 20
    rotate_left
    · rw [if_neg hg17] at hp; cases hp
    rw [if_pos hg17] at hp
    by_cases hg18 : (a0) < (0 : Int32) ∨ hN (h) (o15) ≤ (a0).toNatClampNeg
    · rw [if_pos hg18] at hp; cases hp
    rw [if_neg hg18] at hp
    refine e_iaload f98_18 (Or.inl hg17) rfl hg18 ?_
    have hp := Option.some.inj hp
    subst hp
    exact e_ireturn f98_19 (Or.inl rfl)
theorem f101_0 : fetch 101 0 = some (.aload_n 0, 0, 0, 0) := rfl
theorem f101_1 : fetch 101 1 = some (.getfield 21, 10, 0, 0) := rfl
theorem f101_4 : fetch 101 4 = some (.bipush 20, 0, 0, 0) := rfl
theorem f101_6 : fetch 101 6 = some (.iadd, 0, 0, 0) := rfl
theorem f101_7 : fetch 101 7 = some (.sipush 400, 0, 0, 0) := rfl
theorem f101_10 : fetch 101 10 = some (.if_icmp .gt 7, 17, 0, 0) := rfl
theorem f101_13 : fetch 101 13 = some (.iconst 1, 0, 0, 0) := rfl
theorem f101_14 : fetch 101 14 = some (.goto 4, 18, 0, 0) := rfl
theorem f101_17 : fetch 101 17 = some (.iconst 0, 0, 0, 0) := rfl
theorem f101_18 : fetch 101 18 = some (.ireturn, 0, 0, 1) := rfl
set_option maxRecDepth 100000 in
set_option maxHeartbeats 4000000 in
theorem p101_ok (d : Nat) (h : HS) (w : WF h) (r : Int32) (hp : p101 h = some r) : ex (d + 0) 101 (ent 101 [.ref (57)] h) = some (some (.int (r)), h) := by
  rw [show ent 101 [.ref (57)] h = (0, [some (.ref (57))], [], h) from by  rfl]
  refine ex_weak (ls := [some (.ref (57))]) (le2_ok ⟨Or.inr rfl, trivial⟩) ?_
  unfold p101 at hp
  refine e_aload_n f101_0 rfl ?_
  refine e_getI f101_1 (WF.t w 57 (by decide)) (by decide) ?_
  refine e_bipush (v := 20) f101_4 (by decide) ?_
  refine e_iadd f101_6 ?_
  refine e_sipush (v := 400) f101_7 (by decide) ?_
  by_cases hc1 : (400) < (((hI (h) (57) 0) + (20)) : Int32)
  · rw [if_pos hc1] at hp
    refine e_icmp_gt_t f101_10 hc1 ?_
    refine e_iconst (v := 0) f101_17 (by decide) ?_
    have hp := Option.some.inj hp
    subst hp
    exact e_ireturn f101_18 (by decide)
  · rw [if_neg hc1] at hp
    refine e_icmp_gt_f f101_10 hc1 ?_
    refine e_iconst (v := 1) f101_13 (by decide) ?_
    refine e_goto f101_14 ?_
    have hp := Option.some.inj hp
    subst hp
    exact e_ireturn f101_18 (by decide)
theorem f102_0 : fetch 102 0 = some (.bipush 24, 0, 0, 0) := rfl
theorem f102_2 : fetch 102 2 = some (.istore_n 2, 0, 0, 0) := rfl
theorem f102_3 : fetch 102 3 = some (.iload_n 2, 0, 0, 0) := rfl
theorem f102_4 : fetch 102 4 = some (.ifCond .lt 45, 49, 0, 0) := rfl
theorem f102_7 : fetch 102 7 = some (.aload_n 0, 0, 0, 0) := rfl
theorem f102_8 : fetch 102 8 = some (.getfield 21, 10, 0, 0) := rfl
theorem f102_11 : fetch 102 11 = some (.sipush 400, 0, 0, 0) := rfl
theorem f102_14 : fetch 102 14 = some (.if_icmp .ge 35, 49, 0, 0) := rfl
theorem f102_17 : fetch 102 17 = some (.aload_n 0, 0, 0, 0) := rfl
theorem f102_18 : fetch 102 18 = some (.getfield 9, 10, 1, 2) := rfl
theorem f102_21 : fetch 102 21 = some (.aload_n 0, 0, 0, 0) := rfl
theorem f102_22 : fetch 102 22 = some (.getfield 21, 10, 0, 0) := rfl
theorem f102_25 : fetch 102 25 = some (.iload_n 1, 0, 0, 0) := rfl
theorem f102_26 : fetch 102 26 = some (.iload_n 2, 0, 0, 0) := rfl
theorem f102_27 : fetch 102 27 = some (.iushr, 0, 0, 0) := rfl
theorem f102_28 : fetch 102 28 = some (.sipush 255, 0, 0, 0) := rfl
theorem f102_31 : fetch 102 31 = some (.iand, 0, 0, 0) := rfl
theorem f102_32 : fetch 102 32 = some (.iastore, 0, 0, 0) := rfl
theorem f102_33 : fetch 102 33 = some (.aload_n 0, 0, 0, 0) := rfl
theorem f102_34 : fetch 102 34 = some (.dup, 0, 0, 0) := rfl
theorem f102_35 : fetch 102 35 = some (.getfield 21, 10, 0, 0) := rfl
theorem f102_38 : fetch 102 38 = some (.iconst 1, 0, 0, 0) := rfl
theorem f102_39 : fetch 102 39 = some (.iadd, 0, 0, 0) := rfl
theorem f102_40 : fetch 102 40 = some (.putfield 21, 10, 0, 0) := rfl
theorem f102_43 : fetch 102 43 = some (.iinc 2 (-8), 0, 0, 0) := rfl
theorem f102_46 : fetch 102 46 = some (.goto (-43), 3, 0, 0) := rfl
theorem f102_49 : fetch 102 49 = some (.return_, 0, 0, 0) := rfl
set_option maxRecDepth 100000 in
set_option maxHeartbeats 4000000 in
theorem p102_L3_ok (d : Nat) (F : Nat) (a0 : Int32) : ∀ (n : Nat) (h : HS) (w : WF h) (v2 : Int32) (r : HS), p102_L3 F a0 n h v2 = some r → ex (d + 0) 102 (3, [some (.ref (57)), some (.int (a0)), some (.int (v2))], [], h) = some (none, r) := by
  intro n
  induction n with
  | zero => intro h w v2 r hp; cases hp
  | succ n ih =>
    intro h w v2 r hp
    unfold p102_L3 at hp
    refine e_iload_n f102_3 rfl ?_
    by_cases hc1 : (v2) < (0 : Int32)
    · rw [if_pos hc1] at hp
      refine e_if_lt_t f102_4 hc1 ?_
      have hp := Option.some.inj hp
      subst hp
      exact e_return f102_49
    · rw [if_neg hc1] at hp
      refine e_if_lt_f f102_4 hc1 ?_
      refine e_aload_n f102_7 rfl ?_
      refine e_getI f102_8 (WF.t w 57 (by decide)) (by decide) ?_
      refine e_sipush (v := 400) f102_11 (by decide) ?_
      by_cases hc2 : (hI (h) (57) 0) < ((400) : Int32)
      · rw [if_pos hc2] at hp
        refine e_icmp_ge_f f102_14 hc2 ?_
        refine e_aload_n f102_17 rfl ?_
        refine e_getR f102_18 (WF.t w 57 (by decide)) rfl (WF.r (q := 58) w 57 1 (by decide)) ?_
        refine e_aload_n f102_21 rfl ?_
        refine e_getI f102_22 (WF.t w 57 (by decide)) (by decide) ?_
        refine e_iload_n f102_25 rfl ?_
        refine e_iload_n f102_26 rfl ?_
        refine e_iushr f102_27 ?_
        refine e_sipush (v := 255) f102_28 (by decide) ?_
        refine e_iand f102_31 ?_
        by_cases hg3 : (hI (h) (57) 0) < (0 : Int32) ∨ 400 ≤ (hI (h) (57) 0).toNatClampNeg
        · rw [if_pos hg3] at hp; cases hp
        rw [if_neg hg3] at hp
        refine e_iastore f102_32 (WF.t w 58 (by decide)) (WF.n w 58 (by decide)) hg3 ?_
        obtain ⟨h4, e5, hp⟩ := bind_some hp
        try dsimp only at hp
        have e5 := Option.some.inj e5
        have w6 : WF h4 := e5 ▸ w
        rw [e5]
        refine e_aload_n f102_33 rfl ?_
        refine e_dup f102_34 rfl ?_
        refine e_getI f102_35 (WF.t w6 57 (by decide)) (by decide) ?_
        refine e_iconst (v := 1) f102_38 (by decide) ?_
        refine e_iadd f102_39 ?_
        refine e_putI f102_40 (WF.t w6 57 (by decide)) rfl ?_
        refine e_iinc (ls2 := [some (.ref (57)), some (.int (a0)), some (.int ((v2) + (-8)))]) f102_43 (by decide) rfl rfl ?_
        refine e_goto f102_46 ?_
        refine ex_weak (ls := [some (.ref (57)), some (.int (a0)), some (.int ((v2) + (-8)))]) (le2_ok ⟨Or.inr rfl, Or.inr rfl, Or.inr rfl, trivial⟩) ?_
        exact ih (hsI (h4) (57) 0 ((hI (h4) (57) 0) + (1))) (w6) ((v2) + (-8)) _ hp
      · rw [if_neg hc2] at hp
        refine e_icmp_ge_t f102_14 hc2 ?_
        have hp := Option.some.inj hp
        subst hp
        exact e_return f102_49
set_option maxRecDepth 100000 in
set_option maxHeartbeats 4000000 in
theorem p102_L3_w (F : Nat) (a0 : Int32) : ∀ (n : Nat) (h : HS) (w : WF h) (v2 : Int32) (r : HS), p102_L3 F a0 n h v2 = some r → WF r := by
  intro n
  induction n with
  | zero => intro h w v2 r hp; cases hp
  | succ n ih =>
    intro h w v2 r hp
    unfold p102_L3 at hp
    by_cases hc1 : (v2) < (0 : Int32)
    · rw [if_pos hc1] at hp
      have hp := Option.some.inj hp
      subst hp
      exact (w)
    · rw [if_neg hc1] at hp
      by_cases hc2 : (hI (h) (57) 0) < ((400) : Int32)
      · rw [if_pos hc2] at hp
        by_cases hg3 : (hI (h) (57) 0) < (0 : Int32) ∨ 400 ≤ (hI (h) (57) 0).toNatClampNeg
        · rw [if_pos hg3] at hp; cases hp
        rw [if_neg hg3] at hp
        obtain ⟨h4, e5, hp⟩ := bind_some hp
        try dsimp only at hp
        have e5 := Option.some.inj e5
        have w6 : WF h4 := e5 ▸ w
        exact ih (hsI (h4) (57) 0 ((hI (h4) (57) 0) + (1))) (w6) ((v2) + (-8)) _ hp
      · rw [if_neg hc2] at hp
        have hp := Option.some.inj hp
        subst hp
        exact (w)
set_option maxRecDepth 100000 in
set_option maxHeartbeats 4000000 in
theorem p102_ok (d : Nat) (F : Nat) (h : HS) (w : WF h) (a0 : Int32) (r : HS) (hp : p102 F h a0 = some r) : ex (d + 0) 102 (ent 102 [.ref (57), .int (a0)] h) = some (none, r) := by
  rw [show ent 102 [.ref (57), .int (a0)] h = (0, [some (.ref (57)), some (.int (a0)), none], [], h) from by  rfl]
  refine ex_weak (ls := [some (.ref (57)), some (.int (a0)), none]) (le2_ok ⟨Or.inr rfl, Or.inr rfl, Or.inr rfl, trivial⟩) ?_
  unfold p102 at hp
  refine e_bipush (v := 24) f102_0 (by decide) ?_
  refine e_istore_n (ls2 := [some (.ref (57)), some (.int (a0)), some (.int (24))]) f102_2 (Nat.le_of_ble_eq_true rfl) rfl ?_
  refine ex_weak (ls := [some (.ref (57)), some (.int (a0)), some (.int (24))]) (le2_ok ⟨Or.inr rfl, Or.inr rfl, Or.inr rfl, trivial⟩) ?_
  exact p102_L3_ok d F a0 F (h) (w) (24) _ hp
set_option maxRecDepth 100000 in
set_option maxHeartbeats 4000000 in
theorem p102_w (F : Nat) (h : HS) (w : WF h) (a0 : Int32) (r : HS) (hp : p102 F h a0 = some r) : WF r := by
  unfold p102 at hp
  exact p102_L3_w F a0 F (h) (w) (24) _ hp
theorem f104_0 : fetch 104 0 = some (.aload_n 0, 0, 0, 0) := rfl
theorem f104_1 : fetch 104 1 = some (.getfield 25, 10, 2, 0) := rfl
theorem f104_4 : fetch 104 4 = some (.aload_n 0, 0, 0, 0) := rfl
theorem f104_5 : fetch 104 5 = some (.getfield 15, 10, 3, 2) := rfl
theorem f104_8 : fetch 104 8 = some (.arraylength, 0, 0, 0) := rfl
theorem f104_9 : fetch 104 9 = some (.if_icmp .ge 33, 42, 0, 0) := rfl
theorem f104_12 : fetch 104 12 = some (.aload_n 0, 0, 0, 0) := rfl
theorem f104_13 : fetch 104 13 = some (.getfield 15, 10, 3, 2) := rfl
theorem f104_16 : fetch 104 16 = some (.aload_n 0, 0, 0, 0) := rfl
theorem f104_17 : fetch 104 17 = some (.getfield 25, 10, 2, 0) := rfl
theorem f104_20 : fetch 104 20 = some (.iload_n 1, 0, 0, 0) := rfl
theorem f104_21 : fetch 104 21 = some (.iastore, 0, 0, 0) := rfl
theorem f104_22 : fetch 104 22 = some (.aload_n 0, 0, 0, 0) := rfl
theorem f104_23 : fetch 104 23 = some (.getfield 18, 10, 4, 2) := rfl
theorem f104_26 : fetch 104 26 = some (.aload_n 0, 0, 0, 0) := rfl
theorem f104_27 : fetch 104 27 = some (.getfield 25, 10, 2, 0) := rfl
theorem f104_30 : fetch 104 30 = some (.iload_n 2, 0, 0, 0) := rfl
theorem f104_31 : fetch 104 31 = some (.iastore, 0, 0, 0) := rfl
theorem f104_32 : fetch 104 32 = some (.aload_n 0, 0, 0, 0) := rfl
theorem f104_33 : fetch 104 33 = some (.dup, 0, 0, 0) := rfl
theorem f104_34 : fetch 104 34 = some (.getfield 25, 10, 2, 0) := rfl
theorem f104_37 : fetch 104 37 = some (.iconst 1, 0, 0, 0) := rfl
theorem f104_38 : fetch 104 38 = some (.iadd, 0, 0, 0) := rfl
theorem f104_39 : fetch 104 39 = some (.putfield 25, 10, 2, 0) := rfl
theorem f104_42 : fetch 104 42 = some (.return_, 0, 0, 0) := rfl
set_option maxRecDepth 100000 in
set_option maxHeartbeats 4000000 in
theorem p104_ok (d : Nat) (h : HS) (w : WF h) (a0 : Int32) (a1 : Int32) (r : HS) (hp : p104 h a0 a1 = some r) : ex (d + 0) 104 (ent 104 [.ref (57), .int (a0), .int (a1)] h) = some (none, r) := by
  rw [show ent 104 [.ref (57), .int (a0), .int (a1)] h = (0, [some (.ref (57)), some (.int (a0)), some (.int (a1))], [], h) from by  rfl]
  refine ex_weak (ls := [some (.ref (57)), some (.int (a0)), some (.int (a1))]) (le2_ok ⟨Or.inr rfl, Or.inr rfl, Or.inr rfl, trivial⟩) ?_
  unfold p104 at hp
  refine e_aload_n f104_0 rfl ?_
  refine e_getI f104_1 (WF.t w 57 (by decide)) (by decide) ?_
  refine e_aload_n f104_4 rfl ?_
  refine e_getR f104_5 (WF.t w 57 (by decide)) rfl (WF.r (q := 59) w 57 3 (by decide)) ?_
  refine e_arraylength (v := 401) f104_8 (Or.inl ⟨by rw [(WF.t w 59 (by decide))]; decide, by rw [(WF.t w 59 (by decide))]; decide⟩) (by rw [(WF.n w 59 (by decide))]; decide) ?_
  by_cases hc1 : (hI (h) (57) 2) < ((401) : Int32)
  · rw [if_pos hc1] at hp
    refine e_icmp_ge_f f104_9 hc1 ?_
    refine e_aload_n f104_12 rfl ?_
    refine e_getR f104_13 (WF.t w 57 (by decide)) rfl (WF.r (q := 59) w 57 3 (by decide)) ?_
    refine e_aload_n f104_16 rfl ?_
    refine e_getI f104_17 (WF.t w 57 (by decide)) (by decide) ?_
    refine e_iload_n f104_20 rfl ?_
    by_cases hg2 : (hI (h) (57) 2) < (0 : Int32) ∨ 401 ≤ (hI (h) (57) 2).toNatClampNeg
    · rw [if_pos hg2] at hp; cases hp
    rw [if_neg hg2] at hp
    refine e_iastore f104_21 (WF.t w 59 (by decide)) (WF.n w 59 (by decide)) hg2 ?_
    refine e_aload_n f104_22 rfl ?_
    refine e_getR f104_23 (WF.t w 57 (by decide)) rfl (WF.r (q := 60) w 57 4 (by decide)) ?_
    refine e_aload_n f104_26 rfl ?_
    refine e_getI f104_27 (WF.t w 57 (by decide)) (by decide) ?_
    refine e_iload_n f104_30 rfl ?_
    by_cases hg3 : (hI (hsI (h) (59) (hI (h) (57) 2).toNatClampNeg (a0)) (57) 2) < (0 : Int32) ∨ 401 ≤ (hI (hsI (h) (59) (hI (h) (57) 2).toNatClampNeg (a0)) (57) 2).toNatClampNeg
    · rw [if_pos hg3] at hp; cases hp
    rw [if_neg hg3] at hp
    refine e_iastore f104_31 (WF.t w 60 (by decide)) (WF.n w 60 (by decide)) hg3 ?_
    obtain ⟨h4, e5, hp⟩ := bind_some hp
    try dsimp only at hp
    have e5 := Option.some.inj e5
    have w6 : WF h4 := e5 ▸ w
    rw [e5]
    refine e_aload_n f104_32 rfl ?_
    refine e_dup f104_33 rfl ?_
    refine e_getI f104_34 (WF.t w6 57 (by decide)) (by decide) ?_
    refine e_iconst (v := 1) f104_37 (by decide) ?_
    refine e_iadd f104_38 ?_
    refine e_putI f104_39 (WF.t w6 57 (by decide)) rfl ?_
    have hp := Option.some.inj hp
    subst hp
    exact e_return f104_42
  · rw [if_neg hc1] at hp
    refine e_icmp_ge_t f104_9 hc1 ?_
    have hp := Option.some.inj hp
    subst hp
    exact e_return f104_42
set_option maxRecDepth 100000 in
set_option maxHeartbeats 4000000 in
theorem p104_w (h : HS) (w : WF h) (a0 : Int32) (a1 : Int32) (r : HS) (hp : p104 h a0 a1 = some r) : WF r := by
  unfold p104 at hp
  by_cases hc1 : (hI (h) (57) 2) < ((401) : Int32)
  · rw [if_pos hc1] at hp
    by_cases hg2 : (hI (h) (57) 2) < (0 : Int32) ∨ 401 ≤ (hI (h) (57) 2).toNatClampNeg
    · rw [if_pos hg2] at hp; cases hp
    rw [if_neg hg2] at hp
    by_cases hg3 : (hI (hsI (h) (59) (hI (h) (57) 2).toNatClampNeg (a0)) (57) 2) < (0 : Int32) ∨ 401 ≤ (hI (hsI (h) (59) (hI (h) (57) 2).toNatClampNeg (a0)) (57) 2).toNatClampNeg
    · rw [if_pos hg3] at hp; cases hp
    rw [if_neg hg3] at hp
    obtain ⟨h4, e5, hp⟩ := bind_some hp
    try dsimp only at hp
    have e5 := Option.some.inj e5
    have w6 : WF h4 := e5 ▸ w
    have hp := Option.some.inj hp
    subst hp
    exact (w6)
  · rw [if_neg hc1] at hp
    have hp := Option.some.inj hp
    subst hp
    exact (w)
theorem f105_0 : fetch 105 0 = some (.iload_n 0, 0, 0, 0) := rfl
theorem f105_1 : fetch 105 1 = some (.bipush 48, 0, 0, 0) := rfl
theorem f105_3 : fetch 105 3 = some (.if_icmp .lt 13, 16, 0, 0) := rfl
theorem f105_6 : fetch 105 6 = some (.iload_n 0, 0, 0, 0) := rfl
theorem f105_7 : fetch 105 7 = some (.bipush 57, 0, 0, 0) := rfl
theorem f105_9 : fetch 105 9 = some (.if_icmp .gt 7, 16, 0, 0) := rfl
theorem f105_12 : fetch 105 12 = some (.iconst 1, 0, 0, 0) := rfl
theorem f105_13 : fetch 105 13 = some (.goto 4, 17, 0, 0) := rfl
theorem f105_16 : fetch 105 16 = some (.iconst 0, 0, 0, 0) := rfl
theorem f105_17 : fetch 105 17 = some (.ireturn, 0, 0, 1) := rfl
set_option maxRecDepth 100000 in
set_option maxHeartbeats 4000000 in
theorem p105_ok (d : Nat) (h : HS) (w : WF h) (a0 : Int32) (r : Int32) (hp : p105 h a0 = some r) : ex (d + 0) 105 (ent 105 [.int (a0)] h) = some (some (.int (r)), h) := by
  rw [show ent 105 [.int (a0)] h = (0, [some (.int (a0))], [], h) from by  rfl]
  refine ex_weak (ls := [some (.int (a0))]) (le2_ok ⟨Or.inr rfl, trivial⟩) ?_
  unfold p105 at hp
  refine e_iload_n f105_0 rfl ?_
  refine e_bipush (v := 48) f105_1 (by decide) ?_
  by_cases hc1 : (a0) < ((48) : Int32)
  · rw [if_pos hc1] at hp
    refine e_icmp_lt_t f105_3 hc1 ?_
    refine e_iconst (v := 0) f105_16 (by decide) ?_
    have hp := Option.some.inj hp
    subst hp
    exact e_ireturn f105_17 (by decide)
  · rw [if_neg hc1] at hp
    refine e_icmp_lt_f f105_3 hc1 ?_
    refine e_iload_n f105_6 rfl ?_
    refine e_bipush (v := 57) f105_7 (by decide) ?_
    by_cases hc2 : (57) < ((a0) : Int32)
    · rw [if_pos hc2] at hp
      refine e_icmp_gt_t f105_9 hc2 ?_
      refine e_iconst (v := 0) f105_16 (by decide) ?_
      have hp := Option.some.inj hp
      subst hp
      exact e_ireturn f105_17 (by decide)
    · rw [if_neg hc2] at hp
      refine e_icmp_gt_f f105_9 hc2 ?_
      refine e_iconst (v := 1) f105_12 (by decide) ?_
      refine e_goto f105_13 ?_
      have hp := Option.some.inj hp
      subst hp
      exact e_ireturn f105_17 (by decide)
theorem f106_0 : fetch 106 0 = some (.iload_n 0, 0, 0, 0) := rfl
theorem f106_1 : fetch 106 1 = some (.bipush 97, 0, 0, 0) := rfl
theorem f106_3 : fetch 106 3 = some (.if_icmp .lt 13, 16, 0, 0) := rfl
theorem f106_6 : fetch 106 6 = some (.iload_n 0, 0, 0, 0) := rfl
theorem f106_7 : fetch 106 7 = some (.bipush 122, 0, 0, 0) := rfl
theorem f106_9 : fetch 106 9 = some (.if_icmp .gt 7, 16, 0, 0) := rfl
theorem f106_12 : fetch 106 12 = some (.iconst 1, 0, 0, 0) := rfl
theorem f106_13 : fetch 106 13 = some (.goto 4, 17, 0, 0) := rfl
theorem f106_16 : fetch 106 16 = some (.iconst 0, 0, 0, 0) := rfl
theorem f106_17 : fetch 106 17 = some (.ireturn, 0, 0, 1) := rfl
set_option maxRecDepth 100000 in
set_option maxHeartbeats 4000000 in
theorem p106_ok (d : Nat) (h : HS) (w : WF h) (a0 : Int32) (r : Int32) (hp : p106 h a0 = some r) : ex (d + 0) 106 (ent 106 [.int (a0)] h) = some (some (.int (r)), h) := by
  rw [show ent 106 [.int (a0)] h = (0, [some (.int (a0))], [], h) from by  rfl]
  refine ex_weak (ls := [some (.int (a0))]) (le2_ok ⟨Or.inr rfl, trivial⟩) ?_
  unfold p106 at hp
  refine e_iload_n f106_0 rfl ?_
  refine e_bipush (v := 97) f106_1 (by decide) ?_
  by_cases hc1 : (a0) < ((97) : Int32)
  · rw [if_pos hc1] at hp
    refine e_icmp_lt_t f106_3 hc1 ?_
    refine e_iconst (v := 0) f106_16 (by decide) ?_
    have hp := Option.some.inj hp
    subst hp
    exact e_ireturn f106_17 (by decide)
  · rw [if_neg hc1] at hp
    refine e_icmp_lt_f f106_3 hc1 ?_
    refine e_iload_n f106_6 rfl ?_
    refine e_bipush (v := 122) f106_7 (by decide) ?_
    by_cases hc2 : (122) < ((a0) : Int32)
    · rw [if_pos hc2] at hp
      refine e_icmp_gt_t f106_9 hc2 ?_
      refine e_iconst (v := 0) f106_16 (by decide) ?_
      have hp := Option.some.inj hp
      subst hp
      exact e_ireturn f106_17 (by decide)
    · rw [if_neg hc2] at hp
      refine e_icmp_gt_f f106_9 hc2 ?_
      refine e_iconst (v := 1) f106_12 (by decide) ?_
      refine e_goto f106_13 ?_
      have hp := Option.some.inj hp
      subst hp
      exact e_ireturn f106_17 (by decide)
theorem f107_0 : fetch 107 0 = some (.aload_n 0, 0, 0, 0) := rfl
theorem f107_1 : fetch 107 1 = some (.getfield 9, 10, 1, 2) := rfl
theorem f107_4 : fetch 107 4 = some (.iload_n 1, 0, 0, 0) := rfl
theorem f107_5 : fetch 107 5 = some (.iaload, 0, 0, 0) := rfl
theorem f107_6 : fetch 107 6 = some (.istore_n 2, 0, 0, 0) := rfl
theorem f107_7 : fetch 107 7 = some (.iload_n 1, 0, 0, 0) := rfl
theorem f107_8 : fetch 107 8 = some (.iconst 1, 0, 0, 0) := rfl
theorem f107_9 : fetch 107 9 = some (.iadd, 0, 0, 0) := rfl
theorem f107_10 : fetch 107 10 = some (.istore_n 3, 0, 0, 0) := rfl
theorem f107_11 : fetch 107 11 = some (.iload_n 2, 0, 0, 0) := rfl
theorem f107_12 : fetch 107 12 = some (.bipush 60, 0, 0, 0) := rfl
theorem f107_14 : fetch 107 14 = some (.if_icmp .eq 9, 23, 0, 0) := rfl
theorem f107_17 : fetch 107 17 = some (.iload_n 2, 0, 0, 0) := rfl
theorem f107_18 : fetch 107 18 = some (.bipush 62, 0, 0, 0) := rfl
theorem f107_20 : fetch 107 20 = some (.if_icmp .ne 30, 50, 0, 0) := rfl
theorem f107_23 : fetch 107 23 = some (.iload_n 3, 0, 0, 0) := rfl
theorem f107_24 : fetch 107 24 = some (.aload_n 0, 0, 0, 0) := rfl
theorem f107_25 : fetch 107 25 = some (.getfield 21, 10, 0, 0) := rfl
theorem f107_28 : fetch 107 28 = some (.if_icmp .ge 20, 48, 0, 0) := rfl
theorem f107_31 : fetch 107 31 = some (.aload_n 0, 0, 0, 0) := rfl
theorem f107_32 : fetch 107 32 = some (.getfield 9, 10, 1, 2) := rfl
theorem f107_35 : fetch 107 35 = some (.iload_n 3, 0, 0, 0) := rfl
theorem f107_36 : fetch 107 36 = some (.iaload, 0, 0, 0) := rfl
theorem f107_37 : fetch 107 37 = some (.bipush 61, 0, 0, 0) := rfl
theorem f107_39 : fetch 107 39 = some (.if_icmp .ne 9, 48, 0, 0) := rfl
theorem f107_42 : fetch 107 42 = some (.iload_n 3, 0, 0, 0) := rfl
theorem f107_43 : fetch 107 43 = some (.iconst 1, 0, 0, 0) := rfl
theorem f107_44 : fetch 107 44 = some (.iadd, 0, 0, 0) := rfl
theorem f107_45 : fetch 107 45 = some (.goto 4, 49, 0, 0) := rfl
theorem f107_48 : fetch 107 48 = some (.iload_n 3, 0, 0, 0) := rfl
theorem f107_49 : fetch 107 49 = some (.ireturn, 0, 0, 0) := rfl
theorem f107_50 : fetch 107 50 = some (.iload_n 3, 0, 0, 0) := rfl
theorem f107_51 : fetch 107 51 = some (.aload_n 0, 0, 0, 0) := rfl
theorem f107_52 : fetch 107 52 = some (.getfield 21, 10, 0, 0) := rfl
theorem f107_55 : fetch 107 55 = some (.if_icmp .ge 47, 102, 0, 0) := rfl
theorem f107_58 : fetch 107 58 = some (.iload_n 2, 0, 0, 0) := rfl
theorem f107_59 : fetch 107 59 = some (.invokestatic 40, 105, 1, 1) := rfl
theorem f107_62 : fetch 107 62 = some (.ifCond .eq 15, 77, 0, 0) := rfl
theorem f107_65 : fetch 107 65 = some (.aload_n 0, 0, 0, 0) := rfl
theorem f107_66 : fetch 107 66 = some (.getfield 9, 10, 1, 2) := rfl
theorem f107_69 : fetch 107 69 = some (.iload_n 3, 0, 0, 0) := rfl
theorem f107_70 : fetch 107 70 = some (.iaload, 0, 0, 0) := rfl
theorem f107_71 : fetch 107 71 = some (.invokestatic 40, 105, 1, 1) := rfl
theorem f107_74 : fetch 107 74 = some (.ifCond .ne 22, 96, 0, 0) := rfl
theorem f107_77 : fetch 107 77 = some (.iload_n 2, 0, 0, 0) := rfl
theorem f107_78 : fetch 107 78 = some (.invokestatic 44, 106, 1, 1) := rfl
theorem f107_81 : fetch 107 81 = some (.ifCond .eq 21, 102, 0, 0) := rfl
theorem f107_84 : fetch 107 84 = some (.aload_n 0, 0, 0, 0) := rfl
theorem f107_85 : fetch 107 85 = some (.getfield 9, 10, 1, 2) := rfl
theorem f107_88 : fetch 107 88 = some (.iload_n 3, 0, 0, 0) := rfl
theorem f107_89 : fetch 107 89 = some (.iaload, 0, 0, 0) := rfl
theorem f107_90 : fetch 107 90 = some (.invokestatic 44, 106, 1, 1) := rfl
theorem f107_93 : fetch 107 93 = some (.ifCond .eq 9, 102, 0, 0) := rfl
theorem f107_96 : fetch 107 96 = some (.iinc 3 1, 0, 0, 0) := rfl
theorem f107_99 : fetch 107 99 = some (.goto (-49), 50, 0, 0) := rfl
theorem f107_102 : fetch 107 102 = some (.iload_n 3, 0, 0, 0) := rfl
theorem f107_103 : fetch 107 103 = some (.ireturn, 0, 0, 0) := rfl
set_option maxRecDepth 100000 in
set_option maxHeartbeats 4000000 in
theorem p107_j23_ok (d : Nat) (F : Nat) (a0 : Int32) (h : HS) (w : WF h)  (v3 : Int32) (r : Int32) (hp : p107_j23 F a0 h v3 = some r) : ex (d + 1) 107 (23, [some (.ref (57)), none, none, some (.int (v3))], [], h) = some (some (.int (r)), h) := by
  unfold p107_j23 at hp
  refine e_iload_n f107_23 rfl ?_
  refine e_aload_n f107_24 rfl ?_
  refine e_getI f107_25 (WF.t w 57 (by decide)) (by decide) ?_
  by_cases hc4 : (v3) < ((hI (h) (57) 0) : Int32)
  · rw [if_pos hc4] at hp
    refine e_icmp_ge_f f107_28 hc4 ?_
    refine e_aload_n f107_31 rfl ?_
    refine e_getR f107_32 (WF.t w 57 (by decide)) rfl (WF.r (q := 58) w 57 1 (by decide)) ?_
    refine e_iload_n f107_35 rfl ?_
    by_cases hg5 : (v3) < (0 : Int32) ∨ 400 ≤ (v3).toNatClampNeg
    · rw [if_pos hg5] at hp; cases hp
    rw [if_neg hg5] at hp
    refine e_iaload f107_36 (Or.inl (WF.t w 58 (by decide))) (WF.n w 58 (by decide)) hg5 ?_
    refine e_bipush (v := 61) f107_37 (by decide) ?_
    by_cases hc6 : (hI (h) (58) (v3).toNatClampNeg) = ((61) : Int32)
    · rw [if_pos hc6] at hp
      refine e_icmp_ne_f f107_39 hc6 ?_
      refine e_iload_n f107_42 rfl ?_
      refine e_iconst (v := 1) f107_43 (by decide) ?_
      refine e_iadd f107_44 ?_
      refine e_goto f107_45 ?_
      have hp := Option.some.inj hp
      subst hp
      exact e_ireturn f107_49 (Or.inl rfl)
    · rw [if_neg hc6] at hp
      refine e_icmp_ne_t f107_39 hc6 ?_
      refine e_iload_n f107_48 rfl ?_
      have hp := Option.some.inj hp
      subst hp
      exact e_ireturn f107_49 (Or.inl rfl)
  · rw [if_neg hc4] at hp
    refine e_icmp_ge_t f107_28 hc4 ?_
    refine e_iload_n f107_48 rfl ?_
    have hp := Option.some.inj hp
    subst hp
    exact e_ireturn f107_49 (Or.inl rfl)
set_option maxRecDepth 100000 in
set_option maxHeartbeats 4000000 in
theorem p107_j96_ok (d : Nat) (F : Nat) (a0 : Int32) (K50 : Int32 → Int32 → Option (Int32)) (h : HS) (w : WF h) (hK50 : ∀ (u2 : Int32) (u3 : Int32) (r : Int32), K50 u2 u3 = some r → ex (d + 1) 107 (50, [some (.ref (57)), none, some (.int (u2)), some (.int (u3))], [], h) = some (some (.int (r)), h)) (v2 : Int32) (v3 : Int32) (r : Int32) (hp : p107_j96 F a0 K50 h v2 v3 = some r) : ex (d + 1) 107 (96, [some (.ref (57)), none, some (.int (v2)), some (.int (v3))], [], h) = some (some (.int (r)), h) := by
  unfold p107_j96 at hp
  refine e_iinc (ls2 := [some (.ref (57)), none, some (.int (v2)), some (.int ((v3) + 1))]) f107_96 (by decide) rfl rfl ?_
  refine e_goto f107_99 ?_
  refine ex_weak (ls := [some (.ref (57)), none, some (.int (v2)), some (.int ((v3) + 1))]) (le2_ok ⟨Or.inr rfl, Or.inl rfl, Or.inr rfl, Or.inr rfl, trivial⟩) ?_
  exact hK50 (v2) ((v3) + 1) _ hp
set_option maxRecDepth 100000 in
set_option maxHeartbeats 4000000 in
theorem p107_j77_ok (d : Nat) (F : Nat) (a0 : Int32) (K50 : Int32 → Int32 → Option (Int32)) (h : HS) (w : WF h) (hK50 : ∀ (u2 : Int32) (u3 : Int32) (r : Int32), K50 u2 u3 = some r → ex (d + 1) 107 (50, [some (.ref (57)), none, some (.int (u2)), some (.int (u3))], [], h) = some (some (.int (r)), h)) (v2 : Int32) (v3 : Int32) (r : Int32) (hp : p107_j77 F a0 K50 h v2 v3 = some r) : ex (d + 1) 107 (77, [some (.ref (57)), none, some (.int (v2)), some (.int (v3))], [], h) = some (some (.int (r)), h) := by
  unfold p107_j77 at hp
  refine e_iload_n f107_77 rfl ?_
  obtain ⟨r15, hr16, hp⟩ := bind_some hp
  try dsimp only at hp
  refine e_callS (st := []) (as := [.int (v2)]) f107_78 (by decide) rfl rfl (Nat.le_of_ble_eq_true rfl) (Nat.le_of_ble_eq_true rfl) (p106_ok d (h) w (v2) r15 hr16) ?_
  show ex _ 107 (81, [some (.ref (57)), none, some (.int (v2)), some (.int (v3))], [.int (r15)], h) = _
  by_cases hc17 : (r15) = (0 : Int32)
  · rw [if_pos hc17] at hp
    refine e_if_eq_t f107_81 hc17 ?_
    refine e_iload_n f107_102 rfl ?_
    have hp := Option.some.inj hp
    subst hp
    exact e_ireturn f107_103 (Or.inl rfl)
  · rw [if_neg hc17] at hp
    refine e_if_eq_f f107_81 hc17 ?_
    refine e_aload_n f107_84 rfl ?_
    refine e_getR f107_85 (WF.t w 57 (by decide)) rfl (WF.r (q := 58) w 57 1 (by decide)) ?_
    refine e_iload_n f107_88 rfl ?_
    by_cases hg18 : (v3) < (0 : Int32) ∨ 400 ≤ (v3).toNatClampNeg
    · rw [if_pos hg18] at hp; cases hp
    rw [if_neg hg18] at hp
    refine e_iaload f107_89 (Or.inl (WF.t w 58 (by decide))) (WF.n w 58 (by decide)) hg18 ?_
    obtain ⟨r19, hr20, hp⟩ := bind_some hp
    try dsimp only at hp
    refine e_callS (st := []) (as := [.int (hI (h) (58) (v3).toNatClampNeg)]) f107_90 (by decide) rfl rfl (Nat.le_of_ble_eq_true rfl) (Nat.le_of_ble_eq_true rfl) (p106_ok d (h) w (hI (h) (58) (v3).toNatClampNeg) r19 hr20) ?_
    show ex _ 107 (93, [some (.ref (57)), none, some (.int (v2)), some (.int (v3))], [.int (r19)], h) = _
    by_cases hc21 : (r19) = (0 : Int32)
    · rw [if_pos hc21] at hp
      refine e_if_eq_t f107_93 hc21 ?_
      refine e_iload_n f107_102 rfl ?_
      have hp := Option.some.inj hp
      subst hp
      exact e_ireturn f107_103 (Or.inl rfl)
    · rw [if_neg hc21] at hp
      refine e_if_eq_f f107_93 hc21 ?_
      refine ex_weak (ls := [some (.ref (57)), none, some (.int (v2)), some (.int (v3))]) (le2_ok ⟨Or.inr rfl, Or.inl rfl, Or.inr rfl, Or.inr rfl, trivial⟩) ?_
      exact p107_j96_ok d F a0 (K50) (h) (w) (hK50) (v2) (v3) _ hp
set_option maxRecDepth 100000 in
set_option maxHeartbeats 4000000 in
theorem p107_L50_ok (d : Nat) (F : Nat) (a0 : Int32) (h : HS) (w : WF h)  : ∀ (n : Nat) (v2 : Int32) (v3 : Int32) (r : Int32), p107_L50 F a0 n h v2 v3 = some r → ex (d + 1) 107 (50, [some (.ref (57)), none, some (.int (v2)), some (.int (v3))], [], h) = some (some (.int (r)), h) := by
  intro n
  induction n with
  | zero => intro v2 v3 r hp; cases hp
  | succ n ih =>
    intro v2 v3 r hp
    unfold p107_L50 at hp
    refine e_iload_n f107_50 rfl ?_
    refine e_aload_n f107_51 rfl ?_
    refine e_getI f107_52 (WF.t w 57 (by decide)) (by decide) ?_
    by_cases hc7 : (v3) < ((hI (h) (57) 0) : Int32)
    · rw [if_pos hc7] at hp
      refine e_icmp_ge_f f107_55 hc7 ?_
      refine e_iload_n f107_58 rfl ?_
      obtain ⟨r8, hr9, hp⟩ := bind_some hp
      try dsimp only at hp
      refine e_callS (st := []) (as := [.int (v2)]) f107_59 (by decide) rfl rfl (Nat.le_of_ble_eq_true rfl) (Nat.le_of_ble_eq_true rfl) (p105_ok d (h) w (v2) r8 hr9) ?_
      show ex _ 107 (62, [some (.ref (57)), none, some (.int (v2)), some (.int (v3))], [.int (r8)], h) = _
      by_cases hc10 : (r8) = (0 : Int32)
      · rw [if_pos hc10] at hp
        refine e_if_eq_t f107_62 hc10 ?_
        refine ex_weak (ls := [some (.ref (57)), none, some (.int (v2)), some (.int (v3))]) (le2_ok ⟨Or.inr rfl, Or.inl rfl, Or.inr rfl, Or.inr rfl, trivial⟩) ?_
        exact p107_j77_ok d F a0 ((p107_L50 F a0 n h)) (h) (w) (ih) (v2) (v3) _ hp
      · rw [if_neg hc10] at hp
        refine e_if_eq_f f107_62 hc10 ?_
        refine e_aload_n f107_65 rfl ?_
        refine e_getR f107_66 (WF.t w 57 (by decide)) rfl (WF.r (q := 58) w 57 1 (by decide)) ?_
        refine e_iload_n f107_69 rfl ?_
        by_cases hg11 : (v3) < (0 : Int32) ∨ 400 ≤ (v3).toNatClampNeg
        · rw [if_pos hg11] at hp; cases hp
        rw [if_neg hg11] at hp
        refine e_iaload f107_70 (Or.inl (WF.t w 58 (by decide))) (WF.n w 58 (by decide)) hg11 ?_
        obtain ⟨r12, hr13, hp⟩ := bind_some hp
        try dsimp only at hp
        refine e_callS (st := []) (as := [.int (hI (h) (58) (v3).toNatClampNeg)]) f107_71 (by decide) rfl rfl (Nat.le_of_ble_eq_true rfl) (Nat.le_of_ble_eq_true rfl) (p105_ok d (h) w (hI (h) (58) (v3).toNatClampNeg) r12 hr13) ?_
        show ex _ 107 (74, [some (.ref (57)), none, some (.int (v2)), some (.int (v3))], [.int (r12)], h) = _
        by_cases hc14 : (r12) = (0 : Int32)
        · rw [if_pos hc14] at hp
          refine e_if_ne_f f107_74 hc14 ?_
          refine ex_weak (ls := [some (.ref (57)), none, some (.int (v2)), some (.int (v3))]) (le2_ok ⟨Or.inr rfl, Or.inl rfl, Or.inr rfl, Or.inr rfl, trivial⟩) ?_
          exact p107_j77_ok d F a0 ((p107_L50 F a0 n h)) (h) (w) (ih) (v2) (v3) _ hp
        · rw [if_neg hc14] at hp
          refine e_if_ne_t f107_74 hc14 ?_
          refine ex_weak (ls := [some (.ref (57)), none, some (.int (v2)), some (.int (v3))]) (le2_ok ⟨Or.inr rfl, Or.inl rfl, Or.inr rfl, Or.inr rfl, trivial⟩) ?_
          exact p107_j96_ok d F a0 ((p107_L50 F a0 n h)) (h) (w) (ih) (v2) (v3) _ hp
    · rw [if_neg hc7] at hp
      refine e_icmp_ge_t f107_55 hc7 ?_
      refine e_iload_n f107_102 rfl ?_
      have hp := Option.some.inj hp
      subst hp
      exact e_ireturn f107_103 (Or.inl rfl)
set_option maxRecDepth 100000 in
set_option maxHeartbeats 4000000 in
theorem p107_ok (d : Nat) (F : Nat) (h : HS) (w : WF h) (a0 : Int32) (r : Int32) (hp : p107 F h a0 = some r) : ex (d + 1) 107 (ent 107 [.ref (57), .int (a0)] h) = some (some (.int (r)), h) := by
  rw [show ent 107 [.ref (57), .int (a0)] h = (0, [some (.ref (57)), some (.int (a0)), none, none], [], h) from by  rfl]
  refine ex_weak (ls := [some (.ref (57)), some (.int (a0)), none, none]) (le2_ok ⟨Or.inr rfl, Or.inr rfl, Or.inr rfl, Or.inr rfl, trivial⟩) ?_
  unfold p107 at hp
  refine e_aload_n f107_0 rfl ?_
  refine e_getR f107_1 (WF.t w 57 (by decide)) rfl (WF.r (q := 58) w 57 1 (by decide)) ?_
  refine e_iload_n f107_4 rfl ?_
  by_cases hg1 : (a0) < (0 : Int32) ∨ 400 ≤ (a0).toNatClampNeg
  · rw [if_pos hg1] at hp; cases hp
  rw [if_neg hg1] at hp
  refine e_iaload f107_5 (Or.inl (WF.t w 58 (by decide))) (WF.n w 58 (by decide)) hg1 ?_
  refine e_istore_n (ls2 := [some (.ref (57)), some (.int (a0)), some (.int (hI (h) (58) (a0).toNatClampNeg)), none]) f107_6 (Nat.le_of_ble_eq_true rfl) rfl ?_
  refine e_iload_n f107_7 rfl ?_
  refine e_iconst (v := 1) f107_8 (by decide) ?_
  refine e_iadd f107_9 ?_
  refine e_istore_n (ls2 := [some (.ref (57)), some (.int (a0)), some (.int (hI (h) (58) (a0).toNatClampNeg)), some (.int ((a0) + (1)))]) f107_10 (Nat.le_of_ble_eq_true rfl) rfl ?_
  refine e_iload_n f107_11 rfl ?_
  refine e_bipush (v := 60) f107_12 (by decide) ?_
  by_cases hc2 : (hI (h) (58) (a0).toNatClampNeg) = ((60) : Int32)
  · rw [if_pos hc2] at hp
    refine e_icmp_eq_t f107_14 hc2 ?_
    refine ex_weak (ls := [some (.ref (57)), none, none, some (.int ((a0) + (1)))]) (le2_ok ⟨Or.inr rfl, Or.inl rfl, Or.inl rfl, Or.inr rfl, trivial⟩) ?_
    exact p107_j23_ok d F a0 (h) (w) ((a0) + (1)) _ hp
  · rw [if_neg hc2] at hp
    refine e_icmp_eq_f f107_14 hc2 ?_
    refine e_iload_n f107_17 rfl ?_
    refine e_bipush (v := 62) f107_18 (by decide) ?_
    by_cases hc3 : (hI (h) (58) (a0).toNatClampNeg) = ((62) : Int32)
    · rw [if_pos hc3] at hp
      refine e_icmp_ne_f f107_20 hc3 ?_
      refine ex_weak (ls := [some (.ref (57)), none, none, some (.int ((a0) + (1)))]) (le2_ok ⟨Or.inr rfl, Or.inl rfl, Or.inl rfl, Or.inr rfl, trivial⟩) ?_
      exact p107_j23_ok d F a0 (h) (w) ((a0) + (1)) _ hp
    · rw [if_neg hc3] at hp
      refine e_icmp_ne_t f107_20 hc3 ?_
      refine ex_weak (ls := [some (.ref (57)), none, some (.int (hI (h) (58) (a0).toNatClampNeg)), some (.int ((a0) + (1)))]) (le2_ok ⟨Or.inr rfl, Or.inl rfl, Or.inr rfl, Or.inr rfl, trivial⟩) ?_
      exact p107_L50_ok d F a0 (h) (w) F (hI (h) (58) (a0).toNatClampNeg) ((a0) + (1)) _ hp
theorem f109_0 : fetch 109 0 = some (.iload_n 2, 0, 0, 0) := rfl
theorem f109_1 : fetch 109 1 = some (.iload_n 1, 0, 0, 0) := rfl
theorem f109_2 : fetch 109 2 = some (.isub, 0, 0, 0) := rfl
theorem f109_3 : fetch 109 3 = some (.iconst 4, 0, 0, 0) := rfl
theorem f109_4 : fetch 109 4 = some (.if_icmp .le 7, 11, 0, 0) := rfl
theorem f109_7 : fetch 109 7 = some (.sipush 10000, 0, 0, 0) := rfl
theorem f109_10 : fetch 109 10 = some (.ireturn, 0, 0, 0) := rfl
theorem f109_11 : fetch 109 11 = some (.iconst 0, 0, 0, 0) := rfl
theorem f109_12 : fetch 109 12 = some (.istore_n 3, 0, 0, 0) := rfl
theorem f109_13 : fetch 109 13 = some (.iload_n 1, 0, 0, 0) := rfl
theorem f109_14 : fetch 109 14 = some (.istore 4, 0, 0, 0) := rfl
theorem f109_16 : fetch 109 16 = some (.iload 4, 0, 0, 0) := rfl
theorem f109_18 : fetch 109 18 = some (.iload_n 2, 0, 0, 0) := rfl
theorem f109_19 : fetch 109 19 = some (.if_icmp .ge 25, 44, 0, 0) := rfl
theorem f109_22 : fetch 109 22 = some (.iload_n 3, 0, 0, 0) := rfl
theorem f109_23 : fetch 109 23 = some (.bipush 10, 0, 0, 0) := rfl
theorem f109_25 : fetch 109 25 = some (.imul, 0, 0, 0) := rfl
theorem f109_26 : fetch 109 26 = some (.aload_n 0, 0, 0, 0) := rfl
theorem f109_27 : fetch 109 27 = some (.getfield 9, 10, 1, 2) := rfl
theorem f109_30 : fetch 109 30 = some (.iload 4, 0, 0, 0) := rfl
theorem f109_32 : fetch 109 32 = some (.iaload, 0, 0, 0) := rfl
theorem f109_33 : fetch 109 33 = some (.iadd, 0, 0, 0) := rfl
theorem f109_34 : fetch 109 34 = some (.bipush 48, 0, 0, 0) := rfl
theorem f109_36 : fetch 109 36 = some (.isub, 0, 0, 0) := rfl
theorem f109_37 : fetch 109 37 = some (.istore_n 3, 0, 0, 0) := rfl
theorem f109_38 : fetch 109 38 = some (.iinc 4 1, 0, 0, 0) := rfl
theorem f109_41 : fetch 109 41 = some (.goto (-25), 16, 0, 0) := rfl
theorem f109_44 : fetch 109 44 = some (.iload_n 3, 0, 0, 0) := rfl
theorem f109_45 : fetch 109 45 = some (.ireturn, 0, 0, 0) := rfl
set_option maxRecDepth 100000 in
set_option maxHeartbeats 4000000 in
theorem p109_L16_ok (d : Nat) (F : Nat) (a0 : Int32) (a1 : Int32) (h : HS) (w : WF h)  : ∀ (n : Nat) (v3 : Int32) (v4 : Int32) (r : Int32), p109_L16 F a0 a1 n h v3 v4 = some r → ex (d + 0) 109 (16, [some (.ref (57)), none, some (.int (a1)), some (.int (v3)), some (.int (v4))], [], h) = some (some (.int (r)), h) := by
  intro n
  induction n with
  | zero => intro v3 v4 r hp; cases hp
  | succ n ih =>
    intro v3 v4 r hp
    unfold p109_L16 at hp
    refine e_iload f109_16 rfl ?_
    refine e_iload_n f109_18 rfl ?_
    by_cases hc2 : (v4) < ((a1) : Int32)
    · rw [if_pos hc2] at hp
      refine e_icmp_ge_f f109_19 hc2 ?_
      refine e_iload_n f109_22 rfl ?_
      refine e_bipush (v := 10) f109_23 (by decide) ?_
      refine e_imul f109_25 ?_
      refine e_aload_n f109_26 rfl ?_
      refine e_getR f109_27 (WF.t w 57 (by decide)) rfl (WF.r (q := 58) w 57 1 (by decide)) ?_
      refine e_iload f109_30 rfl ?_
      by_cases hg3 : (v4) < (0 : Int32) ∨ 400 ≤ (v4).toNatClampNeg
      · rw [if_pos hg3] at hp; cases hp
      rw [if_neg hg3] at hp
      refine e_iaload f109_32 (Or.inl (WF.t w 58 (by decide))) (WF.n w 58 (by decide)) hg3 ?_
      refine e_iadd f109_33 ?_
      refine e_bipush (v := 48) f109_34 (by decide) ?_
      refine e_isub f109_36 ?_
      refine e_istore_n (ls2 := [some (.ref (57)), none, some (.int (a1)), some (.int ((((v3) * (10)) + (hI (h) (58) (v4).toNatClampNeg)) - (48))), some (.int (v4))]) f109_37 (Nat.le_of_ble_eq_true rfl) rfl ?_
      refine e_iinc (ls2 := [some (.ref (57)), none, some (.int (a1)), some (.int ((((v3) * (10)) + (hI (h) (58) (v4).toNatClampNeg)) - (48))), some (.int ((v4) + 1))]) f109_38 (by decide) rfl rfl ?_
      refine e_goto f109_41 ?_
      refine ex_weak (ls := [some (.ref (57)), none, some (.int (a1)), some (.int ((((v3) * (10)) + (hI (h) (58) (v4).toNatClampNeg)) - (48))), some (.int ((v4) + 1))]) (le2_ok ⟨Or.inr rfl, Or.inl rfl, Or.inr rfl, Or.inr rfl, Or.inr rfl, trivial⟩) ?_
      exact ih ((((v3) * (10)) + (hI (h) (58) (v4).toNatClampNeg)) - (48)) ((v4) + 1) _ hp
    · rw [if_neg hc2] at hp
      refine e_icmp_ge_t f109_19 hc2 ?_
      refine e_iload_n f109_44 rfl ?_
      have hp := Option.some.inj hp
      subst hp
      exact e_ireturn f109_45 (Or.inl rfl)
set_option maxRecDepth 100000 in
set_option maxHeartbeats 4000000 in
theorem p109_ok (d : Nat) (F : Nat) (h : HS) (w : WF h) (a0 : Int32) (a1 : Int32) (r : Int32) (hp : p109 F h a0 a1 = some r) : ex (d + 0) 109 (ent 109 [.ref (57), .int (a0), .int (a1)] h) = some (some (.int (r)), h) := by
  rw [show ent 109 [.ref (57), .int (a0), .int (a1)] h = (0, [some (.ref (57)), some (.int (a0)), some (.int (a1)), none, none], [], h) from by  rfl]
  refine ex_weak (ls := [some (.ref (57)), some (.int (a0)), some (.int (a1)), none, none]) (le2_ok ⟨Or.inr rfl, Or.inr rfl, Or.inr rfl, Or.inr rfl, Or.inr rfl, trivial⟩) ?_
  unfold p109 at hp
  refine e_iload_n f109_0 rfl ?_
  refine e_iload_n f109_1 rfl ?_
  refine e_isub f109_2 ?_
  refine e_iconst (v := 4) f109_3 (by decide) ?_
  by_cases hc1 : (4) < (((a1) - (a0)) : Int32)
  · rw [if_pos hc1] at hp
    refine e_icmp_le_f f109_4 hc1 ?_
    refine e_sipush (v := 10000) f109_7 (by decide) ?_
    have hp := Option.some.inj hp
    subst hp
    exact e_ireturn f109_10 (Or.inl rfl)
  · rw [if_neg hc1] at hp
    refine e_icmp_le_t f109_4 hc1 ?_
    refine e_iconst (v := 0) f109_11 (by decide) ?_
    refine e_istore_n (ls2 := [some (.ref (57)), some (.int (a0)), some (.int (a1)), some (.int (0)), none]) f109_12 (Nat.le_of_ble_eq_true rfl) rfl ?_
    refine e_iload_n f109_13 rfl ?_
    refine e_istore (ls2 := [some (.ref (57)), some (.int (a0)), some (.int (a1)), some (.int (0)), some (.int (a0))]) f109_14 (Nat.le_of_ble_eq_true rfl) rfl ?_
    refine ex_weak (ls := [some (.ref (57)), none, some (.int (a1)), some (.int (0)), some (.int (a0))]) (le2_ok ⟨Or.inr rfl, Or.inl rfl, Or.inr rfl, Or.inr rfl, Or.inr rfl, trivial⟩) ?_
    exact p109_L16_ok d F a0 a1 (h) (w) F (0) (a0) _ hp
theorem f111_0 : fetch 111 0 = some (.iconst 0, 0, 0, 0) := rfl
theorem f111_1 : fetch 111 1 = some (.istore 4, 0, 0, 0) := rfl
theorem f111_3 : fetch 111 3 = some (.iload 4, 0, 0, 0) := rfl
theorem f111_5 : fetch 111 5 = some (.iload_n 3, 0, 0, 0) := rfl
theorem f111_6 : fetch 111 6 = some (.iload_n 2, 0, 0, 0) := rfl
theorem f111_7 : fetch 111 7 = some (.isub, 0, 0, 0) := rfl
theorem f111_8 : fetch 111 8 = some (.if_icmp .ge 32, 40, 0, 0) := rfl
theorem f111_11 : fetch 111 11 = some (.ldc 57, 2, 1, 0) := rfl
theorem f111_13 : fetch 111 13 = some (.iload_n 1, 0, 0, 0) := rfl
theorem f111_14 : fetch 111 14 = some (.iload 4, 0, 0, 0) := rfl
theorem f111_16 : fetch 111 16 = some (.iadd, 0, 0, 0) := rfl
theorem f111_17 : fetch 111 17 = some (.invokevirtual 64, 0, 1, 7) := rfl
theorem f111_20 : fetch 111 20 = some (.aload_n 0, 0, 0, 0) := rfl
theorem f111_21 : fetch 111 21 = some (.getfield 9, 10, 1, 2) := rfl
theorem f111_24 : fetch 111 24 = some (.iload_n 2, 0, 0, 0) := rfl
theorem f111_25 : fetch 111 25 = some (.iload 4, 0, 0, 0) := rfl
theorem f111_27 : fetch 111 27 = some (.iadd, 0, 0, 0) := rfl
theorem f111_28 : fetch 111 28 = some (.iaload, 0, 0, 0) := rfl
theorem f111_29 : fetch 111 29 = some (.if_icmp .eq 5, 34, 0, 0) := rfl
theorem f111_32 : fetch 111 32 = some (.iconst 0, 0, 0, 0) := rfl
theorem f111_33 : fetch 111 33 = some (.ireturn, 0, 0, 1) := rfl
theorem f111_34 : fetch 111 34 = some (.iinc 4 1, 0, 0, 0) := rfl
theorem f111_37 : fetch 111 37 = some (.goto (-34), 3, 0, 0) := rfl
theorem f111_40 : fetch 111 40 = some (.iconst 1, 0, 0, 0) := rfl
theorem f111_41 : fetch 111 41 = some (.ireturn, 0, 0, 1) := rfl
set_option maxRecDepth 100000 in
set_option maxHeartbeats 4000000 in
theorem p111_L3_ok (d : Nat) (F : Nat) (a0 : Int32) (a1 : Int32) (a2 : Int32) (h : HS) (w : WF h)  : ∀ (n : Nat) (v4 : Int32) (r : Int32), p111_L3 F a0 a1 a2 n h v4 = some r → ex (d + 0) 111 (3, [some (.ref (57)), some (.int (a0)), some (.int (a1)), some (.int (a2)), some (.int (v4))], [], h) = some (some (.int (r)), h) := by
  intro n
  induction n with
  | zero => intro v4 r hp; cases hp
  | succ n ih =>
    intro v4 r hp
    unfold p111_L3 at hp
    refine e_iload f111_3 rfl ?_
    refine e_iload_n f111_5 rfl ?_
    refine e_iload_n f111_6 rfl ?_
    refine e_isub f111_7 ?_
    by_cases hc1 : (v4) < (((a2) - (a1)) : Int32)
    · rw [if_pos hc1] at hp
      refine e_icmp_ge_f f111_8 hc1 ?_
      refine e_ldcS f111_11 rfl ?_
      refine e_iload_n f111_13 rfl ?_
      refine e_iload f111_14 rfl ?_
      refine e_iadd f111_16 ?_
      by_cases hg2 : ((a0) + (v4)) < (0 : Int32) ∨ hN (h) (2) ≤ ((a0) + (v4)).toNatClampNeg
      · rw [if_pos hg2] at hp; cases hp
      rw [if_neg hg2] at hp
      refine e_sch f111_17 rfl (WF.s w 2 (by decide)) (Nat.le_of_ble_eq_true rfl) hg2 ?_
      refine e_aload_n f111_20 rfl ?_
      refine e_getR f111_21 (WF.t w 57 (by decide)) rfl (WF.r (q := 58) w 57 1 (by decide)) ?_
      refine e_iload_n f111_24 rfl ?_
      refine e_iload f111_25 rfl ?_
      refine e_iadd f111_27 ?_
      by_cases hg3 : ((a1) + (v4)) < (0 : Int32) ∨ 400 ≤ ((a1) + (v4)).toNatClampNeg
      · rw [if_pos hg3] at hp; cases hp
      rw [if_neg hg3] at hp
      refine e_iaload f111_28 (Or.inl (WF.t w 58 (by decide))) (WF.n w 58 (by decide)) hg3 ?_
      by_cases hc4 : (hI (h) (2) ((a0) + (v4)).toNatClampNeg) = ((hI (h) (58) ((a1) + (v4)).toNatClampNeg) : Int32)
      · rw [if_pos hc4] at hp
        refine e_icmp_eq_t f111_29 hc4 ?_
        refine e_iinc (ls2 := [some (.ref (57)), some (.int (a0)), some (.int (a1)), some (.int (a2)), some (.int ((v4) + 1))]) f111_34 (by decide) rfl rfl ?_
        refine e_goto f111_37 ?_
        refine ex_weak (ls := [some (.ref (57)), some (.int (a0)), some (.int (a1)), some (.int (a2)), some (.int ((v4) + 1))]) (le2_ok ⟨Or.inr rfl, Or.inr rfl, Or.inr rfl, Or.inr rfl, Or.inr rfl, trivial⟩) ?_
        exact ih ((v4) + 1) _ hp
      · rw [if_neg hc4] at hp
        refine e_icmp_eq_f f111_29 hc4 ?_
        refine e_iconst (v := 0) f111_32 (by decide) ?_
        have hp := Option.some.inj hp
        subst hp
        exact e_ireturn f111_33 (by decide)
    · rw [if_neg hc1] at hp
      refine e_icmp_ge_t f111_8 hc1 ?_
      refine e_iconst (v := 1) f111_40 (by decide) ?_
      have hp := Option.some.inj hp
      subst hp
      exact e_ireturn f111_41 (by decide)
set_option maxRecDepth 100000 in
set_option maxHeartbeats 4000000 in
theorem p111_ok (d : Nat) (F : Nat) (h : HS) (w : WF h) (a0 : Int32) (a1 : Int32) (a2 : Int32) (r : Int32) (hp : p111 F h a0 a1 a2 = some r) : ex (d + 0) 111 (ent 111 [.ref (57), .int (a0), .int (a1), .int (a2)] h) = some (some (.int (r)), h) := by
  rw [show ent 111 [.ref (57), .int (a0), .int (a1), .int (a2)] h = (0, [some (.ref (57)), some (.int (a0)), some (.int (a1)), some (.int (a2)), none], [], h) from by  rfl]
  refine ex_weak (ls := [some (.ref (57)), some (.int (a0)), some (.int (a1)), some (.int (a2)), none]) (le2_ok ⟨Or.inr rfl, Or.inr rfl, Or.inr rfl, Or.inr rfl, Or.inr rfl, trivial⟩) ?_
  unfold p111 at hp
  refine e_iconst (v := 0) f111_0 (by decide) ?_
  refine e_istore (ls2 := [some (.ref (57)), some (.int (a0)), some (.int (a1)), some (.int (a2)), some (.int (0))]) f111_1 (Nat.le_of_ble_eq_true rfl) rfl ?_
  refine ex_weak (ls := [some (.ref (57)), some (.int (a0)), some (.int (a1)), some (.int (a2)), some (.int (0))]) (le2_ok ⟨Or.inr rfl, Or.inr rfl, Or.inr rfl, Or.inr rfl, Or.inr rfl, trivial⟩) ?_
  exact p111_L3_ok d F a0 a1 a2 (h) (w) F (0) _ hp
theorem f110_0 : fetch 110 0 = some (.iconst 0, 0, 0, 0) := rfl
theorem f110_1 : fetch 110 1 = some (.istore_n 3, 0, 0, 0) := rfl
theorem f110_2 : fetch 110 2 = some (.iconst 0, 0, 0, 0) := rfl
theorem f110_3 : fetch 110 3 = some (.istore 4, 0, 0, 0) := rfl
theorem f110_5 : fetch 110 5 = some (.iconst 0, 0, 0, 0) := rfl
theorem f110_6 : fetch 110 6 = some (.istore 5, 0, 0, 0) := rfl
theorem f110_8 : fetch 110 8 = some (.iload 5, 0, 0, 0) := rfl
theorem f110_10 : fetch 110 10 = some (.ldc 57, 2, 1, 0) := rfl
theorem f110_12 : fetch 110 12 = some (.invokevirtual 59, 0, 0, 6) := rfl
theorem f110_15 : fetch 110 15 = some (.if_icmp .gt 64, 79, 0, 0) := rfl
theorem f110_18 : fetch 110 18 = some (.iload 5, 0, 0, 0) := rfl
theorem f110_20 : fetch 110 20 = some (.ldc 57, 2, 1, 0) := rfl
theorem f110_22 : fetch 110 22 = some (.invokevirtual 59, 0, 0, 6) := rfl
theorem f110_25 : fetch 110 25 = some (.if_icmp .eq 15, 40, 0, 0) := rfl
theorem f110_28 : fetch 110 28 = some (.ldc 57, 2, 1, 0) := rfl
theorem f110_30 : fetch 110 30 = some (.iload 5, 0, 0, 0) := rfl
theorem f110_32 : fetch 110 32 = some (.invokevirtual 64, 0, 1, 7) := rfl
theorem f110_35 : fetch 110 35 = some (.bipush 32, 0, 0, 0) := rfl
theorem f110_37 : fetch 110 37 = some (.if_icmp .ne 36, 73, 0, 0) := rfl
theorem f110_40 : fetch 110 40 = some (.iload 5, 0, 0, 0) := rfl
theorem f110_42 : fetch 110 42 = some (.iload 4, 0, 0, 0) := rfl
theorem f110_44 : fetch 110 44 = some (.isub, 0, 0, 0) := rfl
theorem f110_45 : fetch 110 45 = some (.iload_n 2, 0, 0, 0) := rfl
theorem f110_46 : fetch 110 46 = some (.iload_n 1, 0, 0, 0) := rfl
theorem f110_47 : fetch 110 47 = some (.isub, 0, 0, 0) := rfl
theorem f110_48 : fetch 110 48 = some (.if_icmp .ne 16, 64, 0, 0) := rfl
theorem f110_51 : fetch 110 51 = some (.aload_n 0, 0, 0, 0) := rfl
theorem f110_52 : fetch 110 52 = some (.iload 4, 0, 0, 0) := rfl
theorem f110_54 : fetch 110 54 = some (.iload_n 1, 0, 0, 0) := rfl
theorem f110_55 : fetch 110 55 = some (.iload_n 2, 0, 0, 0) := rfl
theorem f110_56 : fetch 110 56 = some (.invokevirtual 68, 111, 3, 0) := rfl
theorem f110_59 : fetch 110 59 = some (.ifCond .eq 5, 64, 0, 0) := rfl
theorem f110_62 : fetch 110 62 = some (.iload_n 3, 0, 0, 0) := rfl
theorem f110_63 : fetch 110 63 = some (.ireturn, 0, 0, 0) := rfl
theorem f110_64 : fetch 110 64 = some (.iinc 3 1, 0, 0, 0) := rfl
theorem f110_67 : fetch 110 67 = some (.iload 5, 0, 0, 0) := rfl
theorem f110_69 : fetch 110 69 = some (.iconst 1, 0, 0, 0) := rfl
theorem f110_70 : fetch 110 70 = some (.iadd, 0, 0, 0) := rfl
theorem f110_71 : fetch 110 71 = some (.istore 4, 0, 0, 0) := rfl
theorem f110_73 : fetch 110 73 = some (.iinc 5 1, 0, 0, 0) := rfl
theorem f110_76 : fetch 110 76 = some (.goto (-68), 8, 0, 0) := rfl
theorem f110_79 : fetch 110 79 = some (.iconst (-1), 0, 0, 0) := rfl
theorem f110_80 : fetch 110 80 = some (.ireturn, 0, 0, 0) := rfl
set_option maxRecDepth 100000 in
set_option maxHeartbeats 4000000 in
theorem p110_j73_ok (d : Nat) (F : Nat) (a0 : Int32) (a1 : Int32) (K8 : Int32 → Int32 → Int32 → Option (Int32)) (h : HS) (w : WF h) (hK8 : ∀ (u3 : Int32) (u4 : Int32) (u5 : Int32) (r : Int32), K8 u3 u4 u5 = some r → ex (d + 1) 110 (8, [some (.ref (57)), some (.int (a0)), some (.int (a1)), some (.int (u3)), some (.int (u4)), some (.int (u5))], [], h) = some (some (.int (r)), h)) (v3 : Int32) (v4 : Int32) (v5 : Int32) (r : Int32) (hp : p110_j73 F a0 a1 K8 h v3 v4 v5 = some r) : ex (d + 1) 110 (73, [some (.ref (57)), some (.int (a0)), some (.int (a1)), some (.int (v3)), some (.int (v4)), some (.int (v5))], [], h) = some (some (.int (r)), h) := by
  unfold p110_j73 at hp
  refine e_iinc (ls2 := [some (.ref (57)), some (.int (a0)), some (.int (a1)), some (.int (v3)), some (.int (v4)), some (.int ((v5) + 1))]) f110_73 (by decide) rfl rfl ?_
  refine e_goto f110_76 ?_
  refine ex_weak (ls := [some (.ref (57)), some (.int (a0)), some (.int (a1)), some (.int (v3)), some (.int (v4)), some (.int ((v5) + 1))]) (le2_ok ⟨Or.inr rfl, Or.inr rfl, Or.inr rfl, Or.inr rfl, Or.inr rfl, Or.inr rfl, trivial⟩) ?_
  exact hK8 (v3) (v4) ((v5) + 1) _ hp
set_option maxRecDepth 100000 in
set_option maxHeartbeats 4000000 in
theorem p110_j64_ok (d : Nat) (F : Nat) (a0 : Int32) (a1 : Int32) (K8 : Int32 → Int32 → Int32 → Option (Int32)) (h : HS) (w : WF h) (hK8 : ∀ (u3 : Int32) (u4 : Int32) (u5 : Int32) (r : Int32), K8 u3 u4 u5 = some r → ex (d + 1) 110 (8, [some (.ref (57)), some (.int (a0)), some (.int (a1)), some (.int (u3)), some (.int (u4)), some (.int (u5))], [], h) = some (some (.int (r)), h)) (v3 : Int32) (v5 : Int32) (r : Int32) (hp : p110_j64 F a0 a1 K8 h v3 v5 = some r) : ex (d + 1) 110 (64, [some (.ref (57)), some (.int (a0)), some (.int (a1)), some (.int (v3)), none, some (.int (v5))], [], h) = some (some (.int (r)), h) := by
  unfold p110_j64 at hp
  refine e_iinc (ls2 := [some (.ref (57)), some (.int (a0)), some (.int (a1)), some (.int ((v3) + 1)), none, some (.int (v5))]) f110_64 (by decide) rfl rfl ?_
  refine e_iload f110_67 rfl ?_
  refine e_iconst (v := 1) f110_69 (by decide) ?_
  refine e_iadd f110_70 ?_
  refine e_istore (ls2 := [some (.ref (57)), some (.int (a0)), some (.int (a1)), some (.int ((v3) + 1)), some (.int ((v5) + (1))), some (.int (v5))]) f110_71 (Nat.le_of_ble_eq_true rfl) rfl ?_
  refine ex_weak (ls := [some (.ref (57)), some (.int (a0)), some (.int (a1)), some (.int ((v3) + 1)), some (.int ((v5) + (1))), some (.int (v5))]) (le2_ok ⟨Or.inr rfl, Or.inr rfl, Or.inr rfl, Or.inr rfl, Or.inr rfl, Or.inr rfl, trivial⟩) ?_
  exact p110_j73_ok d F a0 a1 (K8) (h) (w) (hK8) ((v3) + 1) ((v5) + (1)) (v5) _ hp
set_option maxRecDepth 100000 in
set_option maxHeartbeats 4000000 in
theorem p110_j40_ok (d : Nat) (F : Nat) (a0 : Int32) (a1 : Int32) (K8 : Int32 → Int32 → Int32 → Option (Int32)) (h : HS) (w : WF h) (hK8 : ∀ (u3 : Int32) (u4 : Int32) (u5 : Int32) (r : Int32), K8 u3 u4 u5 = some r → ex (d + 1) 110 (8, [some (.ref (57)), some (.int (a0)), some (.int (a1)), some (.int (u3)), some (.int (u4)), some (.int (u5))], [], h) = some (some (.int (r)), h)) (v3 : Int32) (v4 : Int32) (v5 : Int32) (r : Int32) (hp : p110_j40 F a0 a1 K8 h v3 v4 v5 = some r) : ex (d + 1) 110 (40, [some (.ref (57)), some (.int (a0)), some (.int (a1)), some (.int (v3)), some (.int (v4)), some (.int (v5))], [], h) = some (some (.int (r)), h) := by
  unfold p110_j40 at hp
  refine e_iload f110_40 rfl ?_
  refine e_iload f110_42 rfl ?_
  refine e_isub f110_44 ?_
  refine e_iload_n f110_45 rfl ?_
  refine e_iload_n f110_46 rfl ?_
  refine e_isub f110_47 ?_
  by_cases hc5 : ((v5) - (v4)) = (((a1) - (a0)) : Int32)
  · rw [if_pos hc5] at hp
    refine e_icmp_ne_f f110_48 hc5 ?_
    refine e_aload_n f110_51 rfl ?_
    refine e_iload f110_52 rfl ?_
    refine e_iload_n f110_54 rfl ?_
    refine e_iload_n f110_55 rfl ?_
    obtain ⟨r6, hr7, hp⟩ := bind_some hp
    try dsimp only at hp
    refine e_callV (st := []) (o := 57) (as := [.int (v4), .int (a0), .int (a1)]) f110_56 (by decide) rfl rfl (Nat.le_of_ble_eq_true rfl) (WF.t w 57 (by decide)) (Nat.le_of_ble_eq_true rfl) (p111_ok d F (h) w (v4) (a0) (a1) r6 hr7) ?_
    show ex _ 110 (59, [some (.ref (57)), some (.int (a0)), some (.int (a1)), some (.int (v3)), some (.int (v4)), some (.int (v5))], [.int (r6)], h) = _
    by_cases hc8 : (r6) = (0 : Int32)
    · rw [if_pos hc8] at hp
      refine e_if_eq_t f110_59 hc8 ?_
      refine ex_weak (ls := [some (.ref (57)), some (.int (a0)), some (.int (a1)), some (.int (v3)), none, some (.int (v5))]) (le2_ok ⟨Or.inr rfl, Or.inr rfl, Or.inr rfl, Or.inr rfl, Or.inl rfl, Or.inr rfl, trivial⟩) ?_
      exact p110_j64_ok d F a0 a1 (K8) (h) (w) (hK8) (v3) (v5) _ hp
    · rw [if_neg hc8] at hp
      refine e_if_eq_f f110_59 hc8 ?_
      refine e_iload_n f110_62 rfl ?_
      have hp := Option.some.inj hp
      subst hp
      exact e_ireturn f110_63 (Or.inl rfl)
  · rw [if_neg hc5] at hp
    refine e_icmp_ne_t f110_48 hc5 ?_
    refine ex_weak (ls := [some (.ref (57)), some (.int (a0)), some (.int (a1)), some (.int (v3)), none, some (.int (v5))]) (le2_ok ⟨Or.inr rfl, Or.inr rfl, Or.inr rfl, Or.inr rfl, Or.inl rfl, Or.inr rfl, trivial⟩) ?_
    exact p110_j64_ok d F a0 a1 (K8) (h) (w) (hK8) (v3) (v5) _ hp
set_option maxRecDepth 100000 in
set_option maxHeartbeats 4000000 in
theorem p110_L8_ok (d : Nat) (F : Nat) (a0 : Int32) (a1 : Int32) (h : HS) (w : WF h)  : ∀ (n : Nat) (v3 : Int32) (v4 : Int32) (v5 : Int32) (r : Int32), p110_L8 F a0 a1 n h v3 v4 v5 = some r → ex (d + 1) 110 (8, [some (.ref (57)), some (.int (a0)), some (.int (a1)), some (.int (v3)), some (.int (v4)), some (.int (v5))], [], h) = some (some (.int (r)), h) := by
  intro n
  induction n with
  | zero => intro v3 v4 v5 r hp; cases hp
  | succ n ih =>
    intro v3 v4 v5 r hp
    unfold p110_L8 at hp
    refine e_iload f110_8 rfl ?_
    refine e_ldcS f110_10 rfl ?_
    refine e_slen f110_12 rfl (WF.s w 2 (by decide)) (Nat.le_of_ble_eq_true rfl) ?_
    by_cases hc1 : (Int32.ofNat (hN (h) (2))) < ((v5) : Int32)
    · rw [if_pos hc1] at hp
      refine e_icmp_gt_t f110_15 hc1 ?_
      refine e_iconst (v := -1) f110_79 (by decide) ?_
      have hp := Option.some.inj hp
      subst hp
      exact e_ireturn f110_80 (Or.inl rfl)
    · rw [if_neg hc1] at hp
      refine e_icmp_gt_f f110_15 hc1 ?_
      refine e_iload f110_18 rfl ?_
      refine e_ldcS f110_20 rfl ?_
      refine e_slen f110_22 rfl (WF.s w 2 (by decide)) (Nat.le_of_ble_eq_true rfl) ?_
      by_cases hc2 : (v5) = ((Int32.ofNat (hN (h) (2))) : Int32)
      · rw [if_pos hc2] at hp
        refine e_icmp_eq_t f110_25 hc2 ?_
        refine ex_weak (ls := [some (.ref (57)), some (.int (a0)), some (.int (a1)), some (.int (v3)), some (.int (v4)), some (.int (v5))]) (le2_ok ⟨Or.inr rfl, Or.inr rfl, Or.inr rfl, Or.inr rfl, Or.inr rfl, Or.inr rfl, trivial⟩) ?_
        exact p110_j40_ok d F a0 a1 ((p110_L8 F a0 a1 n h)) (h) (w) (ih) (v3) (v4) (v5) _ hp
      · rw [if_neg hc2] at hp
        refine e_icmp_eq_f f110_25 hc2 ?_
        refine e_ldcS f110_28 rfl ?_
        refine e_iload f110_30 rfl ?_
        by_cases hg3 : (v5) < (0 : Int32) ∨ hN (h) (2) ≤ (v5).toNatClampNeg
        · rw [if_pos hg3] at hp; cases hp
        rw [if_neg hg3] at hp
        refine e_sch f110_32 rfl (WF.s w 2 (by decide)) (Nat.le_of_ble_eq_true rfl) hg3 ?_
        refine e_bipush (v := 32) f110_35 (by decide) ?_
        by_cases hc4 : (hI (h) (2) (v5).toNatClampNeg) = ((32) : Int32)
        · rw [if_pos hc4] at hp
          refine e_icmp_ne_f f110_37 hc4 ?_
          refine ex_weak (ls := [some (.ref (57)), some (.int (a0)), some (.int (a1)), some (.int (v3)), some (.int (v4)), some (.int (v5))]) (le2_ok ⟨Or.inr rfl, Or.inr rfl, Or.inr rfl, Or.inr rfl, Or.inr rfl, Or.inr rfl, trivial⟩) ?_
          exact p110_j40_ok d F a0 a1 ((p110_L8 F a0 a1 n h)) (h) (w) (ih) (v3) (v4) (v5) _ hp
        · rw [if_neg hc4] at hp
          refine e_icmp_ne_t f110_37 hc4 ?_
          refine ex_weak (ls := [some (.ref (57)), some (.int (a0)), some (.int (a1)), some (.int (v3)), some (.int (v4)), some (.int (v5))]) (le2_ok ⟨Or.inr rfl, Or.inr rfl, Or.inr rfl, Or.inr rfl, Or.inr rfl, Or.inr rfl, trivial⟩) ?_
          exact p110_j73_ok d F a0 a1 ((p110_L8 F a0 a1 n h)) (h) (w) (ih) (v3) (v4) (v5) _ hp
set_option maxRecDepth 100000 in
set_option maxHeartbeats 4000000 in
theorem p110_ok (d : Nat) (F : Nat) (h : HS) (w : WF h) (a0 : Int32) (a1 : Int32) (r : Int32) (hp : p110 F h a0 a1 = some r) : ex (d + 1) 110 (ent 110 [.ref (57), .int (a0), .int (a1)] h) = some (some (.int (r)), h) := by
  rw [show ent 110 [.ref (57), .int (a0), .int (a1)] h = (0, [some (.ref (57)), some (.int (a0)), some (.int (a1)), none, none, none], [], h) from by  rfl]
  refine ex_weak (ls := [some (.ref (57)), some (.int (a0)), some (.int (a1)), none, none, none]) (le2_ok ⟨Or.inr rfl, Or.inr rfl, Or.inr rfl, Or.inr rfl, Or.inr rfl, Or.inr rfl, trivial⟩) ?_
  unfold p110 at hp
  refine e_iconst (v := 0) f110_0 (by decide) ?_
  refine e_istore_n (ls2 := [some (.ref (57)), some (.int (a0)), some (.int (a1)), some (.int (0)), none, none]) f110_1 (Nat.le_of_ble_eq_true rfl) rfl ?_
  refine e_iconst (v := 0) f110_2 (by decide) ?_
  refine e_istore (ls2 := [some (.ref (57)), some (.int (a0)), some (.int (a1)), some (.int (0)), some (.int (0)), none]) f110_3 (Nat.le_of_ble_eq_true rfl) rfl ?_
  refine e_iconst (v := 0) f110_5 (by decide) ?_
  refine e_istore (ls2 := [some (.ref (57)), some (.int (a0)), some (.int (a1)), some (.int (0)), some (.int (0)), some (.int (0))]) f110_6 (Nat.le_of_ble_eq_true rfl) rfl ?_
  refine ex_weak (ls := [some (.ref (57)), some (.int (a0)), some (.int (a1)), some (.int (0)), some (.int (0)), some (.int (0))]) (le2_ok ⟨Or.inr rfl, Or.inr rfl, Or.inr rfl, Or.inr rfl, Or.inr rfl, Or.inr rfl, trivial⟩) ?_
  exact p110_L8_ok d F a0 a1 (h) (w) F (0) (0) (0) _ hp
theorem f112_0 : fetch 112 0 = some (.iload_n 0, 0, 0, 0) := rfl
theorem f112_1 : fetch 112 1 = some (.lookupswitch 163 #[(40, 103), (41, 107), (42, 127), (43, 119), (45, 123), (59, 99), (60, 131), (61, 145), (62, 149), (91, 111), (93, 115)], 0, 0, 0) := rfl
theorem f112_100 : fetch 112 100 = some (.sipush 10040, 0, 0, 0) := rfl
theorem f112_103 : fetch 112 103 = some (.ireturn, 0, 0, 0) := rfl
theorem f112_104 : fetch 112 104 = some (.sipush 10041, 0, 0, 0) := rfl
theorem f112_107 : fetch 112 107 = some (.ireturn, 0, 0, 0) := rfl
theorem f112_108 : fetch 112 108 = some (.sipush 10042, 0, 0, 0) := rfl
theorem f112_111 : fetch 112 111 = some (.ireturn, 0, 0, 0) := rfl
theorem f112_112 : fetch 112 112 = some (.sipush 10043, 0, 0, 0) := rfl
theorem f112_115 : fetch 112 115 = some (.ireturn, 0, 0, 0) := rfl
theorem f112_116 : fetch 112 116 = some (.sipush 10044, 0, 0, 0) := rfl
theorem f112_119 : fetch 112 119 = some (.ireturn, 0, 0, 0) := rfl
theorem f112_120 : fetch 112 120 = some (.sipush 10045, 0, 0, 0) := rfl
theorem f112_123 : fetch 112 123 = some (.ireturn, 0, 0, 0) := rfl
theorem f112_124 : fetch 112 124 = some (.sipush 10046, 0, 0, 0) := rfl
theorem f112_127 : fetch 112 127 = some (.ireturn, 0, 0, 0) := rfl
theorem f112_128 : fetch 112 128 = some (.sipush 10047, 0, 0, 0) := rfl
theorem f112_131 : fetch 112 131 = some (.ireturn, 0, 0, 0) := rfl
theorem f112_132 : fetch 112 132 = some (.iload_n 1, 0, 0, 0) := rfl
theorem f112_133 : fetch 112 133 = some (.ifCond .eq 9, 142, 0, 0) := rfl
theorem f112_136 : fetch 112 136 = some (.sipush 10049, 0, 0, 0) := rfl
theorem f112_139 : fetch 112 139 = some (.goto 6, 145, 0, 0) := rfl
theorem f112_142 : fetch 112 142 = some (.sipush 10048, 0, 0, 0) := rfl
theorem f112_145 : fetch 112 145 = some (.ireturn, 0, 0, 0) := rfl
theorem f112_146 : fetch 112 146 = some (.sipush 10050, 0, 0, 0) := rfl
theorem f112_149 : fetch 112 149 = some (.ireturn, 0, 0, 0) := rfl
theorem f112_150 : fetch 112 150 = some (.iload_n 1, 0, 0, 0) := rfl
theorem f112_151 : fetch 112 151 = some (.ifCond .eq 9, 160, 0, 0) := rfl
theorem f112_154 : fetch 112 154 = some (.sipush 10051, 0, 0, 0) := rfl
theorem f112_157 : fetch 112 157 = some (.goto 6, 163, 0, 0) := rfl
theorem f112_160 : fetch 112 160 = some (.sipush 10052, 0, 0, 0) := rfl
theorem f112_163 : fetch 112 163 = some (.ireturn, 0, 0, 0) := rfl
theorem f112_164 : fetch 112 164 = some (.sipush 10001, 0, 0, 0) := rfl
theorem f112_167 : fetch 112 167 = some (.ireturn, 0, 0, 0) := rfl
set_option maxRecDepth 100000 in
set_option maxHeartbeats 4000000 in
theorem p112_ok (d : Nat) (h : HS) (w : WF h) (a0 : Int32) (a1 : Int32) (r : Int32) (hp : p112 h a0 a1 = some r) : ex (d + 0) 112 (ent 112 [.int (a0), .int (a1)] h) = some (some (.int (r)), h) := by
  rw [show ent 112 [.int (a0), .int (a1)] h = (0, [some (.int (a0)), some (.int (a1))], [], h) from by  rfl]
  refine ex_weak (ls := [some (.int (a0)), some (.int (a1))]) (le2_ok ⟨Or.inr rfl, Or.inr rfl, trivial⟩) ?_
  unfold p112 at hp
  refine e_iload_n f112_0 rfl ?_
  by_cases hc1 : (a0) = (40 : Int32)
  · rw [if_pos hc1] at hp
    refine e_look (t := 104) f112_1 (by rw [hc1]; decide) (by rw [hc1]; decide) ?_
    refine e_sipush (v := 10041) f112_104 (by decide) ?_
    have hp := Option.some.inj hp
    subst hp
    exact e_ireturn f112_107 (Or.inl rfl)
  rw [if_neg hc1] at hp
  by_cases hc2 : (a0) = (41 : Int32)
  · rw [if_pos hc2] at hp
    refine e_look (t := 108) f112_1 (by rw [hc2]; decide) (by rw [hc2]; decide) ?_
    refine e_sipush (v := 10042) f112_108 (by decide) ?_
    have hp := Option.some.inj hp
    subst hp
    exact e_ireturn f112_111 (Or.inl rfl)
  rw [if_neg hc2] at hp
  by_cases hc3 : (a0) = (42 : Int32)
  · rw [if_pos hc3] at hp
    refine e_look (t := 128) f112_1 (by rw [hc3]; decide) (by rw [hc3]; decide) ?_
    refine e_sipush (v := 10047) f112_128 (by decide) ?_
    have hp := Option.some.inj hp
    subst hp
    exact e_ireturn f112_131 (Or.inl rfl)
  rw [if_neg hc3] at hp
  by_cases hc4 : (a0) = (43 : Int32)
  · rw [if_pos hc4] at hp
    refine e_look (t := 120) f112_1 (by rw [hc4]; decide) (by rw [hc4]; decide) ?_
    refine e_sipush (v := 10045) f112_120 (by decide) ?_
    have hp := Option.some.inj hp
    subst hp
    exact e_ireturn f112_123 (Or.inl rfl)
  rw [if_neg hc4] at hp
  by_cases hc5 : (a0) = (45 : Int32)
  · rw [if_pos hc5] at hp
    refine e_look (t := 124) f112_1 (by rw [hc5]; decide) (by rw [hc5]; decide) ?_
    refine e_sipush (v := 10046) f112_124 (by decide) ?_
    have hp := Option.some.inj hp
    subst hp
    exact e_ireturn f112_127 (Or.inl rfl)
  rw [if_neg hc5] at hp
  by_cases hc6 : (a0) = (59 : Int32)
  · rw [if_pos hc6] at hp
    refine e_look (t := 100) f112_1 (by rw [hc6]; decide) (by rw [hc6]; decide) ?_
    refine e_sipush (v := 10040) f112_100 (by decide) ?_
    have hp := Option.some.inj hp
    subst hp
    exact e_ireturn f112_103 (Or.inl rfl)
  rw [if_neg hc6] at hp
  by_cases hc7 : (a0) = (60 : Int32)
  · rw [if_pos hc7] at hp
    refine e_look (t := 132) f112_1 (by rw [hc7]; decide) (by rw [hc7]; decide) ?_
    refine e_iload_n f112_132 rfl ?_
    by_cases hc8 : (a1) = (0 : Int32)
    · rw [if_pos hc8] at hp
      refine e_if_eq_t f112_133 hc8 ?_
      refine e_sipush (v := 10048) f112_142 (by decide) ?_
      have hp := Option.some.inj hp
      subst hp
      exact e_ireturn f112_145 (Or.inl rfl)
    · rw [if_neg hc8] at hp
      refine e_if_eq_f f112_133 hc8 ?_
      refine e_sipush (v := 10049) f112_136 (by decide) ?_
      refine e_goto f112_139 ?_
      have hp := Option.some.inj hp
      subst hp
      exact e_ireturn f112_145 (Or.inl rfl)
  rw [if_neg hc7] at hp
  by_cases hc9 : (a0) = (61 : Int32)
  · rw [if_pos hc9] at hp
    refine e_look (t := 146) f112_1 (by rw [hc9]; decide) (by rw [hc9]; decide) ?_
    refine e_sipush (v := 10050) f112_146 (by decide) ?_
    have hp := Option.some.inj hp
    subst hp
    exact e_ireturn f112_149 (Or.inl rfl)
  rw [if_neg hc9] at hp
  by_cases hc10 : (a0) = (62 : Int32)
  · rw [if_pos hc10] at hp
    refine e_look (t := 150) f112_1 (by rw [hc10]; decide) (by rw [hc10]; decide) ?_
    refine e_iload_n f112_150 rfl ?_
    by_cases hc11 : (a1) = (0 : Int32)
    · rw [if_pos hc11] at hp
      refine e_if_eq_t f112_151 hc11 ?_
      refine e_sipush (v := 10052) f112_160 (by decide) ?_
      have hp := Option.some.inj hp
      subst hp
      exact e_ireturn f112_163 (Or.inl rfl)
    · rw [if_neg hc11] at hp
      refine e_if_eq_f f112_151 hc11 ?_
      refine e_sipush (v := 10051) f112_154 (by decide) ?_
      refine e_goto f112_157 ?_
      have hp := Option.some.inj hp
      subst hp
      exact e_ireturn f112_163 (Or.inl rfl)
  rw [if_neg hc10] at hp
  by_cases hc12 : (a0) = (91 : Int32)
  · rw [if_pos hc12] at hp
    refine e_look (t := 112) f112_1 (by rw [hc12]; decide) (by rw [hc12]; decide) ?_
    refine e_sipush (v := 10043) f112_112 (by decide) ?_
    have hp := Option.some.inj hp
    subst hp
    exact e_ireturn f112_115 (Or.inl rfl)
  rw [if_neg hc12] at hp
  by_cases hc13 : (a0) = (93 : Int32)
  · rw [if_pos hc13] at hp
    refine e_look (t := 116) f112_1 (by rw [hc13]; decide) (by rw [hc13]; decide) ?_
    refine e_sipush (v := 10044) f112_116 (by decide) ?_
    have hp := Option.some.inj hp
    subst hp
    exact e_ireturn f112_119 (Or.inl rfl)
  rw [if_neg hc13] at hp
  have he14 : Op.lookupswitch.offset [(40, 103), (41, 107), (42, 127), (43, 119), (45, 123), (59, 99), (60, 131), (61, 145), (62, 149), (91, 111), (93, 115)] (163) (a0).toInt = 163 := by
    rw [Op.lookupswitch.offset_cons, if_neg (fun e => i32_ne hc1 (by decide) e.symm), Op.lookupswitch.offset_cons, if_neg (fun e => i32_ne hc2 (by decide) e.symm), Op.lookupswitch.offset_cons, if_neg (fun e => i32_ne hc3 (by decide) e.symm), Op.lookupswitch.offset_cons, if_neg (fun e => i32_ne hc4 (by decide) e.symm), Op.lookupswitch.offset_cons, if_neg (fun e => i32_ne hc5 (by decide) e.symm), Op.lookupswitch.offset_cons, if_neg (fun e => i32_ne hc6 (by decide) e.symm), Op.lookupswitch.offset_cons, if_neg (fun e => i32_ne hc7 (by decide) e.symm), Op.lookupswitch.offset_cons, if_neg (fun e => i32_ne hc9 (by decide) e.symm), Op.lookupswitch.offset_cons, if_neg (fun e => i32_ne hc10 (by decide) e.symm), Op.lookupswitch.offset_cons, if_neg (fun e => i32_ne hc12 (by decide) e.symm), Op.lookupswitch.offset_cons, if_neg (fun e => i32_ne hc13 (by decide) e.symm), Op.lookupswitch.offset_nil]
  refine e_look (t := 164) f112_1 ⟨by show 0 ≤ _ + Op.lookupswitch.offset [(40, 103), (41, 107), (42, 127), (43, 119), (45, 123), (59, 99), (60, 131), (61, 145), (62, 149), (91, 111), (93, 115)] (163) (a0).toInt; rw [he14]; decide, by decide⟩ (by show Int.toNat (_ + Op.lookupswitch.offset [(40, 103), (41, 107), (42, 127), (43, 119), (45, 123), (59, 99), (60, 131), (61, 145), (62, 149), (91, 111), (93, 115)] (163) (a0).toInt) = _; rw [he14]; decide) ?_
  refine e_sipush (v := 10001) f112_164 (by decide) ?_
  have hp := Option.some.inj hp
  subst hp
  exact e_ireturn f112_167 (Or.inl rfl)
