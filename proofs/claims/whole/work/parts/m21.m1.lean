theorem f223_0 : fetch 223 0 = some (.aload_n 0, 0, 0, 0) := rfl
theorem f223_1 : fetch 223 1 = some (.getfield 118, 12, 48, 2) := rfl
theorem f223_4 : fetch 223 4 = some (.iload_n 1, 0, 0, 0) := rfl
theorem f223_5 : fetch 223 5 = some (.iaload, 0, 0, 0) := rfl
theorem f223_6 : fetch 223 6 = some (.iload_n 2, 0, 0, 0) := rfl
theorem f223_7 : fetch 223 7 = some (.if_icmp .gt 32, 39, 0, 0) := rfl
theorem f223_10 : fetch 223 10 = some (.aload_n 0, 0, 0, 0) := rfl
theorem f223_11 : fetch 223 11 = some (.getfield 121, 12, 49, 2) := rfl
theorem f223_14 : fetch 223 14 = some (.iload_n 1, 0, 0, 0) := rfl
theorem f223_15 : fetch 223 15 = some (.iaload, 0, 0, 0) := rfl
theorem f223_16 : fetch 223 16 = some (.iload_n 2, 0, 0, 0) := rfl
theorem f223_17 : fetch 223 17 = some (.if_icmp .le 22, 39, 0, 0) := rfl
theorem f223_20 : fetch 223 20 = some (.aload_n 0, 0, 0, 0) := rfl
theorem f223_21 : fetch 223 21 = some (.getfield 37, 12, 16, 2) := rfl
theorem f223_24 : fetch 223 24 = some (.aload_n 0, 0, 0, 0) := rfl
theorem f223_25 : fetch 223 25 = some (.getfield 109, 12, 45, 2) := rfl
theorem f223_28 : fetch 223 28 = some (.iload_n 1, 0, 0, 0) := rfl
theorem f223_29 : fetch 223 29 = some (.iaload, 0, 0, 0) := rfl
theorem f223_30 : fetch 223 30 = some (.iaload, 0, 0, 0) := rfl
theorem f223_31 : fetch 223 31 = some (.iload_n 2, 0, 0, 0) := rfl
theorem f223_32 : fetch 223 32 = some (.if_icmp .gt 7, 39, 0, 0) := rfl
theorem f223_35 : fetch 223 35 = some (.iconst 1, 0, 0, 0) := rfl
theorem f223_36 : fetch 223 36 = some (.goto 4, 40, 0, 0) := rfl
theorem f223_39 : fetch 223 39 = some (.iconst 0, 0, 0, 0) := rfl
theorem f223_40 : fetch 223 40 = some (.ireturn, 0, 0, 1) := rfl
set_option maxRecDepth 100000 in
set_option maxHeartbeats 4000000 in
theorem p223_ok (d : Nat) (h : HS) (w : WF h) (a0 : Int32) (a1 : Int32) (r : Int32) (hp : p223 h a0 a1 = some r) : ex (d + 0) 223 (ent 223 [.ref (86), .int (a0), .int (a1)] h) = some (some (.int (r)), h) := by
  rw [show ent 223 [.ref (86), .int (a0), .int (a1)] h = (0, [some (.ref (86)), some (.int (a0)), some (.int (a1))], [], h) from by  rfl]
  refine ex_weak (ls := [some (.ref (86)), some (.int (a0)), some (.int (a1))]) (le2_ok ⟨Or.inr rfl, Or.inr rfl, Or.inr rfl, trivial⟩) ?_
  unfold p223 at hp
  refine e_aload_n f223_0 rfl ?_
  refine e_getR f223_1 (WF.t w 86 (by decide)) rfl (WF.r (q := 123) w 86 48 (by decide)) ?_
  refine e_iload_n f223_4 rfl ?_
  by_cases hg1 : (a0) < (0 : Int32) ∨ 200 ≤ (a0).toNatClampNeg
  · rw [if_pos hg1] at hp; cases hp
  rw [if_neg hg1] at hp
  refine e_iaload f223_5 (Or.inl (WF.t w 123 (by decide))) (WF.n w 123 (by decide)) hg1 ?_
  refine e_iload_n f223_6 rfl ?_
  by_cases hc2 : (a1) < ((hI (h) (123) (a0).toNatClampNeg) : Int32)
  · rw [if_pos hc2] at hp
    refine e_icmp_gt_t f223_7 hc2 ?_
    refine e_iconst (v := 0) f223_39 (by decide) ?_
    have hp := Option.some.inj hp
    subst hp
    exact e_ireturn f223_40 (by decide)
  · rw [if_neg hc2] at hp
    refine e_icmp_gt_f f223_7 hc2 ?_
    refine e_aload_n f223_10 rfl ?_
    refine e_getR f223_11 (WF.t w 86 (by decide)) rfl (WF.r (q := 124) w 86 49 (by decide)) ?_
    refine e_iload_n f223_14 rfl ?_
    by_cases hg3 : (a0) < (0 : Int32) ∨ 200 ≤ (a0).toNatClampNeg
    · rw [if_pos hg3] at hp; cases hp
    rw [if_neg hg3] at hp
    refine e_iaload f223_15 (Or.inl (WF.t w 124 (by decide))) (WF.n w 124 (by decide)) hg3 ?_
    refine e_iload_n f223_16 rfl ?_
    by_cases hc4 : (a1) < ((hI (h) (124) (a0).toNatClampNeg) : Int32)
    · rw [if_pos hc4] at hp
      refine e_icmp_le_f f223_17 hc4 ?_
      refine e_aload_n f223_20 rfl ?_
      refine e_getR f223_21 (WF.t w 86 (by decide)) rfl (WF.r (q := 96) w 86 16 (by decide)) ?_
      refine e_aload_n f223_24 rfl ?_
      refine e_getR f223_25 (WF.t w 86 (by decide)) rfl (WF.r (q := 120) w 86 45 (by decide)) ?_
      refine e_iload_n f223_28 rfl ?_
      by_cases hg5 : (a0) < (0 : Int32) ∨ 200 ≤ (a0).toNatClampNeg
      · rw [if_pos hg5] at hp; cases hp
      rw [if_neg hg5] at hp
      refine e_iaload f223_29 (Or.inl (WF.t w 120 (by decide))) (WF.n w 120 (by decide)) hg5 ?_
      by_cases hg6 : (hI (h) (120) (a0).toNatClampNeg) < (0 : Int32) ∨ 200 ≤ (hI (h) (120) (a0).toNatClampNeg).toNatClampNeg
      · rw [if_pos hg6] at hp; cases hp
      rw [if_neg hg6] at hp
      refine e_iaload f223_30 (Or.inl (WF.t w 96 (by decide))) (WF.n w 96 (by decide)) hg6 ?_
      refine e_iload_n f223_31 rfl ?_
      by_cases hc7 : (a1) < ((hI (h) (96) (hI (h) (120) (a0).toNatClampNeg).toNatClampNeg) : Int32)
      · rw [if_pos hc7] at hp
        refine e_icmp_gt_t f223_32 hc7 ?_
        refine e_iconst (v := 0) f223_39 (by decide) ?_
        have hp := Option.some.inj hp
        subst hp
        exact e_ireturn f223_40 (by decide)
      · rw [if_neg hc7] at hp
        refine e_icmp_gt_f f223_32 hc7 ?_
        refine e_iconst (v := 1) f223_35 (by decide) ?_
        refine e_goto f223_36 ?_
        have hp := Option.some.inj hp
        subst hp
        exact e_ireturn f223_40 (by decide)
    · rw [if_neg hc4] at hp
      refine e_icmp_le_t f223_17 hc4 ?_
      refine e_iconst (v := 0) f223_39 (by decide) ?_
      have hp := Option.some.inj hp
      subst hp
      exact e_ireturn f223_40 (by decide)
theorem f224_0 : fetch 224 0 = some (.aload_n 0, 0, 0, 0) := rfl
theorem f224_1 : fetch 224 1 = some (.iload_n 1, 0, 0, 0) := rfl
theorem f224_2 : fetch 224 2 = some (.invokevirtual 332, 220, 1, 0) := rfl
theorem f224_5 : fetch 224 5 = some (.ifCond .eq 27, 32, 0, 0) := rfl
theorem f224_8 : fetch 224 8 = some (.iload_n 2, 0, 0, 0) := rfl
theorem f224_9 : fetch 224 9 = some (.invokestatic 335, 188, 1, 1) := rfl
theorem f224_12 : fetch 224 12 = some (.ifCond .eq 20, 32, 0, 0) := rfl
theorem f224_15 : fetch 224 15 = some (.aload_n 0, 0, 0, 0) := rfl
theorem f224_16 : fetch 224 16 = some (.iload_n 1, 0, 0, 0) := rfl
theorem f224_17 : fetch 224 17 = some (.iload_n 2, 0, 0, 0) := rfl
theorem f224_18 : fetch 224 18 = some (.invokevirtual 338, 222, 2, 0) := rfl
theorem f224_21 : fetch 224 21 = some (.ifCond .eq 7, 28, 0, 0) := rfl
theorem f224_24 : fetch 224 24 = some (.iconst 1, 0, 0, 0) := rfl
theorem f224_25 : fetch 224 25 = some (.goto 8, 33, 0, 0) := rfl
theorem f224_28 : fetch 224 28 = some (.iconst 0, 0, 0, 0) := rfl
theorem f224_29 : fetch 224 29 = some (.goto 4, 33, 0, 0) := rfl
theorem f224_32 : fetch 224 32 = some (.iconst (-1), 0, 0, 0) := rfl
theorem f224_33 : fetch 224 33 = some (.ireturn, 0, 0, 0) := rfl
set_option maxRecDepth 100000 in
set_option maxHeartbeats 4000000 in
theorem p224_ok (d : Nat) (h : HS) (w : WF h) (a0 : Int32) (a1 : Int32) (r : Int32) (hp : p224 h a0 a1 = some r) : ex (d + 2) 224 (ent 224 [.ref (86), .int (a0), .int (a1)] h) = some (some (.int (r)), h) := by
  rw [show ent 224 [.ref (86), .int (a0), .int (a1)] h = (0, [some (.ref (86)), some (.int (a0)), some (.int (a1))], [], h) from by  rfl]
  refine ex_weak (ls := [some (.ref (86)), some (.int (a0)), some (.int (a1))]) (le2_ok ⟨Or.inr rfl, Or.inr rfl, Or.inr rfl, trivial⟩) ?_
  unfold p224 at hp
  refine e_aload_n f224_0 rfl ?_
  refine e_iload_n f224_1 rfl ?_
  obtain ⟨r1, hr2, hp⟩ := bind_some hp
  try dsimp only at hp
  refine e_callV (st := []) (o := 86) (as := [.int (a0)]) f224_2 (by decide) rfl rfl (Nat.le_of_ble_eq_true rfl) (WF.t w 86 (by decide)) (Nat.le_of_ble_eq_true rfl) (p220_ok d (h) w (a0) r1 hr2) ?_
  show ex _ 224 (5, [some (.ref (86)), some (.int (a0)), some (.int (a1))], [.int (r1)], h) = _
  by_cases hc3 : (r1) = (0 : Int32)
  · rw [if_pos hc3] at hp
    refine e_if_eq_t f224_5 hc3 ?_
    refine e_iconst (v := -1) f224_32 (by decide) ?_
    have hp := Option.some.inj hp
    subst hp
    exact e_ireturn f224_33 (Or.inl rfl)
  · rw [if_neg hc3] at hp
    refine e_if_eq_f f224_5 hc3 ?_
    refine e_iload_n f224_8 rfl ?_
    obtain ⟨r4, hr5, hp⟩ := bind_some hp
    try dsimp only at hp
    refine e_callS (st := []) (as := [.int (a1)]) f224_9 (by decide) rfl rfl (Nat.le_of_ble_eq_true rfl) (Nat.le_of_ble_eq_true rfl) (p188_ok d (h) w (a1) r4 hr5) ?_
    show ex _ 224 (12, [some (.ref (86)), some (.int (a0)), some (.int (a1))], [.int (r4)], h) = _
    by_cases hc6 : (r4) = (0 : Int32)
    · rw [if_pos hc6] at hp
      refine e_if_eq_t f224_12 hc6 ?_
      refine e_iconst (v := -1) f224_32 (by decide) ?_
      have hp := Option.some.inj hp
      subst hp
      exact e_ireturn f224_33 (Or.inl rfl)
    · rw [if_neg hc6] at hp
      refine e_if_eq_f f224_12 hc6 ?_
      refine e_aload_n f224_15 rfl ?_
      refine e_iload_n f224_16 rfl ?_
      refine e_iload_n f224_17 rfl ?_
      obtain ⟨r7, hr8, hp⟩ := bind_some hp
      try dsimp only at hp
      refine e_callV (st := []) (o := 86) (as := [.int (a0), .int (a1)]) f224_18 (by decide) rfl rfl (Nat.le_of_ble_eq_true rfl) (WF.t w 86 (by decide)) (Nat.le_of_ble_eq_true rfl) (p222_ok (d + 1) (h) w (a0) (a1) r7 hr8) ?_
      show ex _ 224 (21, [some (.ref (86)), some (.int (a0)), some (.int (a1))], [.int (r7)], h) = _
      by_cases hc9 : (r7) = (0 : Int32)
      · rw [if_pos hc9] at hp
        refine e_if_eq_t f224_21 hc9 ?_
        refine e_iconst (v := 0) f224_28 (by decide) ?_
        refine e_goto f224_29 ?_
        have hp := Option.some.inj hp
        subst hp
        exact e_ireturn f224_33 (Or.inl rfl)
      · rw [if_neg hc9] at hp
        refine e_if_eq_f f224_21 hc9 ?_
        refine e_iconst (v := 1) f224_24 (by decide) ?_
        refine e_goto f224_25 ?_
        have hp := Option.some.inj hp
        subst hp
        exact e_ireturn f224_33 (Or.inl rfl)
theorem f225_0 : fetch 225 0 = some (.aload_n 0, 0, 0, 0) := rfl
theorem f225_1 : fetch 225 1 = some (.getfield 88, 12, 38, 2) := rfl
theorem f225_4 : fetch 225 4 = some (.iload_n 1, 0, 0, 0) := rfl
theorem f225_5 : fetch 225 5 = some (.iaload, 0, 0, 0) := rfl
theorem f225_6 : fetch 225 6 = some (.iload_n 2, 0, 0, 0) := rfl
theorem f225_7 : fetch 225 7 = some (.if_icmp .eq 24, 31, 0, 0) := rfl
theorem f225_10 : fetch 225 10 = some (.aload_n 0, 0, 0, 0) := rfl
theorem f225_11 : fetch 225 11 = some (.iload_n 2, 0, 0, 0) := rfl
theorem f225_12 : fetch 225 12 = some (.aload_n 0, 0, 0, 0) := rfl
theorem f225_13 : fetch 225 13 = some (.getfield 94, 12, 40, 2) := rfl
theorem f225_16 : fetch 225 16 = some (.iload_n 1, 0, 0, 0) := rfl
theorem f225_17 : fetch 225 17 = some (.iaload, 0, 0, 0) := rfl
theorem f225_18 : fetch 225 18 = some (.aload_n 0, 0, 0, 0) := rfl
theorem f225_19 : fetch 225 19 = some (.getfield 97, 12, 41, 2) := rfl
theorem f225_22 : fetch 225 22 = some (.iload_n 1, 0, 0, 0) := rfl
theorem f225_23 : fetch 225 23 = some (.iaload, 0, 0, 0) := rfl
theorem f225_24 : fetch 225 24 = some (.iload_n 3, 0, 0, 0) := rfl
theorem f225_25 : fetch 225 25 = some (.invokevirtual 341, 216, 4, 0) := rfl
theorem f225_28 : fetch 225 28 = some (.ifCond .eq 7, 35, 0, 0) := rfl
theorem f225_31 : fetch 225 31 = some (.iconst 1, 0, 0, 0) := rfl
theorem f225_32 : fetch 225 32 = some (.goto 4, 36, 0, 0) := rfl
theorem f225_35 : fetch 225 35 = some (.iconst 0, 0, 0, 0) := rfl
theorem f225_36 : fetch 225 36 = some (.ireturn, 0, 0, 1) := rfl
set_option maxRecDepth 100000 in
set_option maxHeartbeats 4000000 in
theorem p225_ok (d : Nat) (F : Nat) (h : HS) (w : WF h) (a0 : Int32) (a1 : Int32) (a2 : Int32) (r : Int32) (hp : p225 F h a0 a1 a2 = some r) : ex (d + 2) 225 (ent 225 [.ref (86), .int (a0), .int (a1), .int (a2)] h) = some (some (.int (r)), h) := by
  rw [show ent 225 [.ref (86), .int (a0), .int (a1), .int (a2)] h = (0, [some (.ref (86)), some (.int (a0)), some (.int (a1)), some (.int (a2))], [], h) from by  rfl]
  refine ex_weak (ls := [some (.ref (86)), some (.int (a0)), some (.int (a1)), some (.int (a2))]) (le2_ok ⟨Or.inr rfl, Or.inr rfl, Or.inr rfl, Or.inr rfl, trivial⟩) ?_
  unfold p225 at hp
  refine e_aload_n f225_0 rfl ?_
  refine e_getR f225_1 (WF.t w 86 (by decide)) rfl (WF.r (q := 113) w 86 38 (by decide)) ?_
  refine e_iload_n f225_4 rfl ?_
  by_cases hg1 : (a0) < (0 : Int32) ∨ 200 ≤ (a0).toNatClampNeg
  · rw [if_pos hg1] at hp; cases hp
  rw [if_neg hg1] at hp
  refine e_iaload f225_5 (Or.inl (WF.t w 113 (by decide))) (WF.n w 113 (by decide)) hg1 ?_
  refine e_iload_n f225_6 rfl ?_
  by_cases hc2 : (hI (h) (113) (a0).toNatClampNeg) = ((a1) : Int32)
  · rw [if_pos hc2] at hp
    refine e_icmp_eq_t f225_7 hc2 ?_
    refine e_iconst (v := 1) f225_31 (by decide) ?_
    refine e_goto f225_32 ?_
    have hp := Option.some.inj hp
    subst hp
    exact e_ireturn f225_36 (by decide)
  · rw [if_neg hc2] at hp
    refine e_icmp_eq_f f225_7 hc2 ?_
    refine e_aload_n f225_10 rfl ?_
    refine e_iload_n f225_11 rfl ?_
    refine e_aload_n f225_12 rfl ?_
    refine e_getR f225_13 (WF.t w 86 (by decide)) rfl (WF.r (q := 115) w 86 40 (by decide)) ?_
    refine e_iload_n f225_16 rfl ?_
    by_cases hg3 : (a0) < (0 : Int32) ∨ 200 ≤ (a0).toNatClampNeg
    · rw [if_pos hg3] at hp; cases hp
    rw [if_neg hg3] at hp
    refine e_iaload f225_17 (Or.inl (WF.t w 115 (by decide))) (WF.n w 115 (by decide)) hg3 ?_
    refine e_aload_n f225_18 rfl ?_
    refine e_getR f225_19 (WF.t w 86 (by decide)) rfl (WF.r (q := 116) w 86 41 (by decide)) ?_
    refine e_iload_n f225_22 rfl ?_
    by_cases hg4 : (a0) < (0 : Int32) ∨ 200 ≤ (a0).toNatClampNeg
    · rw [if_pos hg4] at hp; cases hp
    rw [if_neg hg4] at hp
    refine e_iaload f225_23 (Or.inl (WF.t w 116 (by decide))) (WF.n w 116 (by decide)) hg4 ?_
    refine e_iload_n f225_24 rfl ?_
    obtain ⟨r5, hr6, hp⟩ := bind_some hp
    try dsimp only at hp
    refine e_callV (st := []) (o := 86) (as := [.int (a1), .int (hI (h) (115) (a0).toNatClampNeg), .int (hI (h) (116) (a0).toNatClampNeg), .int (a2)]) f225_25 (by decide) rfl rfl (Nat.le_of_ble_eq_true rfl) (WF.t w 86 (by decide)) (Nat.le_of_ble_eq_true rfl) (p216_ok d F (h) w (a1) (hI (h) (115) (a0).toNatClampNeg) (hI (h) (116) (a0).toNatClampNeg) (a2) r5 hr6) ?_
    show ex _ 225 (28, [some (.ref (86)), some (.int (a0)), some (.int (a1)), some (.int (a2))], [.int (r5)], h) = _
    by_cases hc7 : (r5) = (0 : Int32)
    · rw [if_pos hc7] at hp
      refine e_if_eq_t f225_28 hc7 ?_
      refine e_iconst (v := 0) f225_35 (by decide) ?_
      have hp := Option.some.inj hp
      subst hp
      exact e_ireturn f225_36 (by decide)
    · rw [if_neg hc7] at hp
      refine e_if_eq_f f225_28 hc7 ?_
      refine e_iconst (v := 1) f225_31 (by decide) ?_
      refine e_goto f225_32 ?_
      have hp := Option.some.inj hp
      subst hp
      exact e_ireturn f225_36 (by decide)
theorem f226_0 : fetch 226 0 = some (.iconst 0, 0, 0, 0) := rfl
theorem f226_1 : fetch 226 1 = some (.istore 4, 0, 0, 0) := rfl
theorem f226_3 : fetch 226 3 = some (.iload 4, 0, 0, 0) := rfl
theorem f226_5 : fetch 226 5 = some (.aload_n 0, 0, 0, 0) := rfl
theorem f226_6 : fetch 226 6 = some (.getfield 304, 12, 32, 0) := rfl
theorem f226_9 : fetch 226 9 = some (.if_icmp .ge 44, 53, 0, 0) := rfl
theorem f226_12 : fetch 226 12 = some (.aload_n 0, 0, 0, 0) := rfl
theorem f226_13 : fetch 226 13 = some (.getfield 85, 12, 37, 2) := rfl
theorem f226_16 : fetch 226 16 = some (.iload 4, 0, 0, 0) := rfl
theorem f226_18 : fetch 226 18 = some (.iaload, 0, 0, 0) := rfl
theorem f226_19 : fetch 226 19 = some (.iload_n 1, 0, 0, 0) := rfl
theorem f226_20 : fetch 226 20 = some (.if_icmp .ne 27, 47, 0, 0) := rfl
theorem f226_23 : fetch 226 23 = some (.aload_n 0, 0, 0, 0) := rfl
theorem f226_24 : fetch 226 24 = some (.iload 4, 0, 0, 0) := rfl
theorem f226_26 : fetch 226 26 = some (.iload_n 3, 0, 0, 0) := rfl
theorem f226_27 : fetch 226 27 = some (.invokevirtual 338, 222, 2, 0) := rfl
theorem f226_30 : fetch 226 30 = some (.ifCond .eq 17, 47, 0, 0) := rfl
theorem f226_33 : fetch 226 33 = some (.aload_n 0, 0, 0, 0) := rfl
theorem f226_34 : fetch 226 34 = some (.iload 4, 0, 0, 0) := rfl
theorem f226_36 : fetch 226 36 = some (.iload_n 2, 0, 0, 0) := rfl
theorem f226_37 : fetch 226 37 = some (.iload_n 3, 0, 0, 0) := rfl
theorem f226_38 : fetch 226 38 = some (.invokevirtual 345, 225, 3, 0) := rfl
theorem f226_41 : fetch 226 41 = some (.ifCond .eq 6, 47, 0, 0) := rfl
theorem f226_44 : fetch 226 44 = some (.iload 4, 0, 0, 0) := rfl
theorem f226_46 : fetch 226 46 = some (.ireturn, 0, 0, 0) := rfl
theorem f226_47 : fetch 226 47 = some (.iinc 4 1, 0, 0, 0) := rfl
theorem f226_50 : fetch 226 50 = some (.goto (-47), 3, 0, 0) := rfl
theorem f226_53 : fetch 226 53 = some (.iconst (-1), 0, 0, 0) := rfl
theorem f226_54 : fetch 226 54 = some (.ireturn, 0, 0, 0) := rfl
set_option maxRecDepth 100000 in
set_option maxHeartbeats 4000000 in
theorem p226_j47_ok (d : Nat) (F : Nat) (a0 : Int32) (a1 : Int32) (a2 : Int32) (K3 : Int32 → Option (Int32)) (h : HS) (w : WF h) (hK3 : ∀ (u4 : Int32) (r : Int32), K3 u4 = some r → ex (d + 3) 226 (3, [some (.ref (86)), some (.int (a0)), some (.int (a1)), some (.int (a2)), some (.int (u4))], [], h) = some (some (.int (r)), h)) (v4 : Int32) (r : Int32) (hp : p226_j47 F a0 a1 a2 K3 h v4 = some r) : ex (d + 3) 226 (47, [some (.ref (86)), some (.int (a0)), some (.int (a1)), some (.int (a2)), some (.int (v4))], [], h) = some (some (.int (r)), h) := by
  unfold p226_j47 at hp
  refine e_iinc (ls2 := [some (.ref (86)), some (.int (a0)), some (.int (a1)), some (.int (a2)), some (.int ((v4) + 1))]) f226_47 (by decide) rfl rfl ?_
  refine e_goto f226_50 ?_
  refine ex_weak (ls := [some (.ref (86)), some (.int (a0)), some (.int (a1)), some (.int (a2)), some (.int ((v4) + 1))]) (le2_ok ⟨Or.inr rfl, Or.inr rfl, Or.inr rfl, Or.inr rfl, Or.inr rfl, trivial⟩) ?_
  exact hK3 ((v4) + 1) _ hp
set_option maxRecDepth 100000 in
set_option maxHeartbeats 4000000 in
theorem p226_L3_ok (d : Nat) (F : Nat) (a0 : Int32) (a1 : Int32) (a2 : Int32) (h : HS) (w : WF h)  : ∀ (n : Nat) (v4 : Int32) (r : Int32), p226_L3 F a0 a1 a2 n h v4 = some r → ex (d + 3) 226 (3, [some (.ref (86)), some (.int (a0)), some (.int (a1)), some (.int (a2)), some (.int (v4))], [], h) = some (some (.int (r)), h) := by
  intro n
  induction n with
  | zero => intro v4 r hp; cases hp
  | succ n ih =>
    intro v4 r hp
    unfold p226_L3 at hp
    refine e_iload f226_3 rfl ?_
    refine e_aload_n f226_5 rfl ?_
    refine e_getI f226_6 (WF.t w 86 (by decide)) (by decide) ?_
    by_cases hc1 : (v4) < ((hI (h) (86) 32) : Int32)
    · rw [if_pos hc1] at hp
      refine e_icmp_ge_f f226_9 hc1 ?_
      refine e_aload_n f226_12 rfl ?_
      refine e_getR f226_13 (WF.t w 86 (by decide)) rfl (WF.r (q := 112) w 86 37 (by decide)) ?_
      refine e_iload f226_16 rfl ?_
      by_cases hg2 : (v4) < (0 : Int32) ∨ 200 ≤ (v4).toNatClampNeg
      · rw [if_pos hg2] at hp; cases hp
      rw [if_neg hg2] at hp
      refine e_iaload f226_18 (Or.inl (WF.t w 112 (by decide))) (WF.n w 112 (by decide)) hg2 ?_
      refine e_iload_n f226_19 rfl ?_
      by_cases hc3 : (hI (h) (112) (v4).toNatClampNeg) = ((a0) : Int32)
      · rw [if_pos hc3] at hp
        refine e_icmp_ne_f f226_20 hc3 ?_
        refine e_aload_n f226_23 rfl ?_
        refine e_iload f226_24 rfl ?_
        refine e_iload_n f226_26 rfl ?_
        obtain ⟨r4, hr5, hp⟩ := bind_some hp
        try dsimp only at hp
        refine e_callV (st := []) (o := 86) (as := [.int (v4), .int (a2)]) f226_27 (by decide) rfl rfl (Nat.le_of_ble_eq_true rfl) (WF.t w 86 (by decide)) (Nat.le_of_ble_eq_true rfl) (p222_ok (d + 2) (h) w (v4) (a2) r4 hr5) ?_
        show ex _ 226 (30, [some (.ref (86)), some (.int (a0)), some (.int (a1)), some (.int (a2)), some (.int (v4))], [.int (r4)], h) = _
        by_cases hc6 : (r4) = (0 : Int32)
        · rw [if_pos hc6] at hp
          refine e_if_eq_t f226_30 hc6 ?_
          refine ex_weak (ls := [some (.ref (86)), some (.int (a0)), some (.int (a1)), some (.int (a2)), some (.int (v4))]) (le2_ok ⟨Or.inr rfl, Or.inr rfl, Or.inr rfl, Or.inr rfl, Or.inr rfl, trivial⟩) ?_
          exact p226_j47_ok d F a0 a1 a2 ((p226_L3 F a0 a1 a2 n h)) (h) (w) (ih) (v4) _ hp
        · rw [if_neg hc6] at hp
          refine e_if_eq_f f226_30 hc6 ?_
          refine e_aload_n f226_33 rfl ?_
          refine e_iload f226_34 rfl ?_
          refine e_iload_n f226_36 rfl ?_
          refine e_iload_n f226_37 rfl ?_
          obtain ⟨r7, hr8, hp⟩ := bind_some hp
          try dsimp only at hp
          refine e_callV (st := []) (o := 86) (as := [.int (v4), .int (a1), .int (a2)]) f226_38 (by decide) rfl rfl (Nat.le_of_ble_eq_true rfl) (WF.t w 86 (by decide)) (Nat.le_of_ble_eq_true rfl) (p225_ok d F (h) w (v4) (a1) (a2) r7 hr8) ?_
          show ex _ 226 (41, [some (.ref (86)), some (.int (a0)), some (.int (a1)), some (.int (a2)), some (.int (v4))], [.int (r7)], h) = _
          by_cases hc9 : (r7) = (0 : Int32)
          · rw [if_pos hc9] at hp
            refine e_if_eq_t f226_41 hc9 ?_
            refine ex_weak (ls := [some (.ref (86)), some (.int (a0)), some (.int (a1)), some (.int (a2)), some (.int (v4))]) (le2_ok ⟨Or.inr rfl, Or.inr rfl, Or.inr rfl, Or.inr rfl, Or.inr rfl, trivial⟩) ?_
            exact p226_j47_ok d F a0 a1 a2 ((p226_L3 F a0 a1 a2 n h)) (h) (w) (ih) (v4) _ hp
          · rw [if_neg hc9] at hp
            refine e_if_eq_f f226_41 hc9 ?_
            refine e_iload f226_44 rfl ?_
            have hp := Option.some.inj hp
            subst hp
            exact e_ireturn f226_46 (Or.inl rfl)
      · rw [if_neg hc3] at hp
        refine e_icmp_ne_t f226_20 hc3 ?_
        refine ex_weak (ls := [some (.ref (86)), some (.int (a0)), some (.int (a1)), some (.int (a2)), some (.int (v4))]) (le2_ok ⟨Or.inr rfl, Or.inr rfl, Or.inr rfl, Or.inr rfl, Or.inr rfl, trivial⟩) ?_
        exact p226_j47_ok d F a0 a1 a2 ((p226_L3 F a0 a1 a2 n h)) (h) (w) (ih) (v4) _ hp
    · rw [if_neg hc1] at hp
      refine e_icmp_ge_t f226_9 hc1 ?_
      refine e_iconst (v := -1) f226_53 (by decide) ?_
      have hp := Option.some.inj hp
      subst hp
      exact e_ireturn f226_54 (Or.inl rfl)
set_option maxRecDepth 100000 in
set_option maxHeartbeats 4000000 in
theorem p226_ok (d : Nat) (F : Nat) (h : HS) (w : WF h) (a0 : Int32) (a1 : Int32) (a2 : Int32) (r : Int32) (hp : p226 F h a0 a1 a2 = some r) : ex (d + 3) 226 (ent 226 [.ref (86), .int (a0), .int (a1), .int (a2)] h) = some (some (.int (r)), h) := by
  rw [show ent 226 [.ref (86), .int (a0), .int (a1), .int (a2)] h = (0, [some (.ref (86)), some (.int (a0)), some (.int (a1)), some (.int (a2)), none], [], h) from by  rfl]
  refine ex_weak (ls := [some (.ref (86)), some (.int (a0)), some (.int (a1)), some (.int (a2)), none]) (le2_ok ⟨Or.inr rfl, Or.inr rfl, Or.inr rfl, Or.inr rfl, Or.inr rfl, trivial⟩) ?_
  unfold p226 at hp
  refine e_iconst (v := 0) f226_0 (by decide) ?_
  refine e_istore (ls2 := [some (.ref (86)), some (.int (a0)), some (.int (a1)), some (.int (a2)), some (.int (0))]) f226_1 (Nat.le_of_ble_eq_true rfl) rfl ?_
  refine ex_weak (ls := [some (.ref (86)), some (.int (a0)), some (.int (a1)), some (.int (a2)), some (.int (0))]) (le2_ok ⟨Or.inr rfl, Or.inr rfl, Or.inr rfl, Or.inr rfl, Or.inr rfl, trivial⟩) ?_
  exact p226_L3_ok d F a0 a1 a2 (h) (w) F (0) _ hp
theorem f227_0 : fetch 227 0 = some (.aload_n 0, 0, 0, 0) := rfl
theorem f227_1 : fetch 227 1 = some (.iload_n 1, 0, 0, 0) := rfl
theorem f227_2 : fetch 227 2 = some (.invokevirtual 329, 218, 1, 0) := rfl
theorem f227_5 : fetch 227 5 = some (.ifCond .eq 28, 33, 0, 0) := rfl
theorem f227_8 : fetch 227 8 = some (.aload_n 0, 0, 0, 0) := rfl
theorem f227_9 : fetch 227 9 = some (.iload_n 2, 0, 0, 0) := rfl
theorem f227_10 : fetch 227 10 = some (.invokevirtual 320, 213, 1, 0) := rfl
theorem f227_13 : fetch 227 13 = some (.ifCond .eq 20, 33, 0, 0) := rfl
theorem f227_16 : fetch 227 16 = some (.iload_n 3, 0, 0, 0) := rfl
theorem f227_17 : fetch 227 17 = some (.invokestatic 335, 188, 1, 1) := rfl
theorem f227_20 : fetch 227 20 = some (.ifCond .eq 13, 33, 0, 0) := rfl
theorem f227_23 : fetch 227 23 = some (.aload_n 0, 0, 0, 0) := rfl
theorem f227_24 : fetch 227 24 = some (.iload_n 1, 0, 0, 0) := rfl
theorem f227_25 : fetch 227 25 = some (.iload_n 2, 0, 0, 0) := rfl
theorem f227_26 : fetch 227 26 = some (.iload_n 3, 0, 0, 0) := rfl
theorem f227_27 : fetch 227 27 = some (.invokevirtual 348, 226, 3, 0) := rfl
theorem f227_30 : fetch 227 30 = some (.goto 5, 35, 0, 0) := rfl
theorem f227_33 : fetch 227 33 = some (.bipush (-2), 0, 0, 0) := rfl
theorem f227_35 : fetch 227 35 = some (.ireturn, 0, 0, 0) := rfl
set_option maxRecDepth 100000 in
set_option maxHeartbeats 4000000 in
theorem p227_ok (d : Nat) (F : Nat) (h : HS) (w : WF h) (a0 : Int32) (a1 : Int32) (a2 : Int32) (r : Int32) (hp : p227 F h a0 a1 a2 = some r) : ex (d + 4) 227 (ent 227 [.ref (86), .int (a0), .int (a1), .int (a2)] h) = some (some (.int (r)), h) := by
  rw [show ent 227 [.ref (86), .int (a0), .int (a1), .int (a2)] h = (0, [some (.ref (86)), some (.int (a0)), some (.int (a1)), some (.int (a2))], [], h) from by  rfl]
  refine ex_weak (ls := [some (.ref (86)), some (.int (a0)), some (.int (a1)), some (.int (a2))]) (le2_ok ⟨Or.inr rfl, Or.inr rfl, Or.inr rfl, Or.inr rfl, trivial⟩) ?_
  unfold p227 at hp
  refine e_aload_n f227_0 rfl ?_
  refine e_iload_n f227_1 rfl ?_
  obtain ⟨r1, hr2, hp⟩ := bind_some hp
  try dsimp only at hp
  refine e_callV (st := []) (o := 86) (as := [.int (a0)]) f227_2 (by decide) rfl rfl (Nat.le_of_ble_eq_true rfl) (WF.t w 86 (by decide)) (Nat.le_of_ble_eq_true rfl) (p218_ok (d + 2) (h) w (a0) r1 hr2) ?_
  show ex _ 227 (5, [some (.ref (86)), some (.int (a0)), some (.int (a1)), some (.int (a2))], [.int (r1)], h) = _
  by_cases hc3 : (r1) = (0 : Int32)
  · rw [if_pos hc3] at hp
    refine e_if_eq_t f227_5 hc3 ?_
    refine e_bipush (v := -2) f227_33 (by decide) ?_
    have hp := Option.some.inj hp
    subst hp
    exact e_ireturn f227_35 (Or.inl rfl)
  · rw [if_neg hc3] at hp
    refine e_if_eq_f f227_5 hc3 ?_
    refine e_aload_n f227_8 rfl ?_
    refine e_iload_n f227_9 rfl ?_
    obtain ⟨r4, hr5, hp⟩ := bind_some hp
    try dsimp only at hp
    refine e_callV (st := []) (o := 86) (as := [.int (a1)]) f227_10 (by decide) rfl rfl (Nat.le_of_ble_eq_true rfl) (WF.t w 86 (by decide)) (Nat.le_of_ble_eq_true rfl) (p213_ok (d + 2) (h) w (a1) r4 hr5) ?_
    show ex _ 227 (13, [some (.ref (86)), some (.int (a0)), some (.int (a1)), some (.int (a2))], [.int (r4)], h) = _
    by_cases hc6 : (r4) = (0 : Int32)
    · rw [if_pos hc6] at hp
      refine e_if_eq_t f227_13 hc6 ?_
      refine e_bipush (v := -2) f227_33 (by decide) ?_
      have hp := Option.some.inj hp
      subst hp
      exact e_ireturn f227_35 (Or.inl rfl)
    · rw [if_neg hc6] at hp
      refine e_if_eq_f f227_13 hc6 ?_
      refine e_iload_n f227_16 rfl ?_
      obtain ⟨r7, hr8, hp⟩ := bind_some hp
      try dsimp only at hp
      refine e_callS (st := []) (as := [.int (a2)]) f227_17 (by decide) rfl rfl (Nat.le_of_ble_eq_true rfl) (Nat.le_of_ble_eq_true rfl) (p188_ok (d + 2) (h) w (a2) r7 hr8) ?_
      show ex _ 227 (20, [some (.ref (86)), some (.int (a0)), some (.int (a1)), some (.int (a2))], [.int (r7)], h) = _
      by_cases hc9 : (r7) = (0 : Int32)
      · rw [if_pos hc9] at hp
        refine e_if_eq_t f227_20 hc9 ?_
        refine e_bipush (v := -2) f227_33 (by decide) ?_
        have hp := Option.some.inj hp
        subst hp
        exact e_ireturn f227_35 (Or.inl rfl)
      · rw [if_neg hc9] at hp
        refine e_if_eq_f f227_20 hc9 ?_
        refine e_aload_n f227_23 rfl ?_
        refine e_iload_n f227_24 rfl ?_
        refine e_iload_n f227_25 rfl ?_
        refine e_iload_n f227_26 rfl ?_
        obtain ⟨r10, hr11, hp⟩ := bind_some hp
        try dsimp only at hp
        refine e_callV (st := []) (o := 86) (as := [.int (a0), .int (a1), .int (a2)]) f227_27 (by decide) rfl rfl (Nat.le_of_ble_eq_true rfl) (WF.t w 86 (by decide)) (Nat.le_of_ble_eq_true rfl) (p226_ok d F (h) w (a0) (a1) (a2) r10 hr11) ?_
        show ex _ 227 (30, [some (.ref (86)), some (.int (a0)), some (.int (a1)), some (.int (a2))], [.int (r10)], h) = _
        refine e_goto f227_30 ?_
        have hp := Option.some.inj hp
        subst hp
        exact e_ireturn f227_35 (Or.inl rfl)
theorem f228_0 : fetch 228 0 = some (.iconst 0, 0, 0, 0) := rfl
theorem f228_1 : fetch 228 1 = some (.istore_n 3, 0, 0, 0) := rfl
theorem f228_2 : fetch 228 2 = some (.iconst 0, 0, 0, 0) := rfl
theorem f228_3 : fetch 228 3 = some (.istore 4, 0, 0, 0) := rfl
theorem f228_5 : fetch 228 5 = some (.iload 4, 0, 0, 0) := rfl
theorem f228_7 : fetch 228 7 = some (.aload_n 0, 0, 0, 0) := rfl
theorem f228_8 : fetch 228 8 = some (.getfield 314, 12, 20, 0) := rfl
theorem f228_11 : fetch 228 11 = some (.if_icmp .ge 29, 40, 0, 0) := rfl
theorem f228_14 : fetch 228 14 = some (.iload_n 3, 0, 0, 0) := rfl
theorem f228_15 : fetch 228 15 = some (.aload_n 0, 0, 0, 0) := rfl
theorem f228_16 : fetch 228 16 = some (.iload_n 1, 0, 0, 0) := rfl
theorem f228_17 : fetch 228 17 = some (.iload 4, 0, 0, 0) := rfl
theorem f228_19 : fetch 228 19 = some (.iload_n 2, 0, 0, 0) := rfl
theorem f228_20 : fetch 228 20 = some (.invokevirtual 348, 226, 3, 0) := rfl
theorem f228_23 : fetch 228 23 = some (.iconst (-1), 0, 0, 0) := rfl
theorem f228_24 : fetch 228 24 = some (.if_icmp .ne 7, 31, 0, 0) := rfl
theorem f228_27 : fetch 228 27 = some (.iconst 1, 0, 0, 0) := rfl
theorem f228_28 : fetch 228 28 = some (.goto 4, 32, 0, 0) := rfl
theorem f228_31 : fetch 228 31 = some (.iconst 0, 0, 0, 0) := rfl
theorem f228_32 : fetch 228 32 = some (.iadd, 0, 0, 0) := rfl
theorem f228_33 : fetch 228 33 = some (.istore_n 3, 0, 0, 0) := rfl
theorem f228_34 : fetch 228 34 = some (.iinc 4 1, 0, 0, 0) := rfl
theorem f228_37 : fetch 228 37 = some (.goto (-32), 5, 0, 0) := rfl
theorem f228_40 : fetch 228 40 = some (.iload_n 3, 0, 0, 0) := rfl
theorem f228_41 : fetch 228 41 = some (.ireturn, 0, 0, 0) := rfl
set_option maxRecDepth 100000 in
set_option maxHeartbeats 4000000 in
theorem p228_j32_ok (d : Nat) (F : Nat) (a0 : Int32) (a1 : Int32) (K5 : Int32 → Int32 → Option (Int32)) (h : HS) (w : WF h) (hK5 : ∀ (u3 : Int32) (u4 : Int32) (r : Int32), K5 u3 u4 = some r → ex (d + 4) 228 (5, [some (.ref (86)), some (.int (a0)), some (.int (a1)), some (.int (u3)), some (.int (u4))], [], h) = some (some (.int (r)), h)) (v4 : Int32) (s0 : Int32) (s1 : Int32) (r : Int32) (hp : p228_j32 F a0 a1 K5 h v4 s0 s1 = some r) : ex (d + 4) 228 (32, [some (.ref (86)), some (.int (a0)), some (.int (a1)), none, some (.int (v4))], [.int (s0), .int (s1)], h) = some (some (.int (r)), h) := by
  unfold p228_j32 at hp
  refine e_iadd f228_32 ?_
  refine e_istore_n (ls2 := [some (.ref (86)), some (.int (a0)), some (.int (a1)), some (.int ((s1) + (s0))), some (.int (v4))]) f228_33 (Nat.le_of_ble_eq_true rfl) rfl ?_
  refine e_iinc (ls2 := [some (.ref (86)), some (.int (a0)), some (.int (a1)), some (.int ((s1) + (s0))), some (.int ((v4) + 1))]) f228_34 (by decide) rfl rfl ?_
  refine e_goto f228_37 ?_
  refine ex_weak (ls := [some (.ref (86)), some (.int (a0)), some (.int (a1)), some (.int ((s1) + (s0))), some (.int ((v4) + 1))]) (le2_ok ⟨Or.inr rfl, Or.inr rfl, Or.inr rfl, Or.inr rfl, Or.inr rfl, trivial⟩) ?_
  exact hK5 ((s1) + (s0)) ((v4) + 1) _ hp
set_option maxRecDepth 100000 in
set_option maxHeartbeats 4000000 in
theorem p228_L5_ok (d : Nat) (F : Nat) (a0 : Int32) (a1 : Int32) (h : HS) (w : WF h)  : ∀ (n : Nat) (v3 : Int32) (v4 : Int32) (r : Int32), p228_L5 F a0 a1 n h v3 v4 = some r → ex (d + 4) 228 (5, [some (.ref (86)), some (.int (a0)), some (.int (a1)), some (.int (v3)), some (.int (v4))], [], h) = some (some (.int (r)), h) := by
  intro n
  induction n with
  | zero => intro v3 v4 r hp; cases hp
  | succ n ih =>
    intro v3 v4 r hp
    unfold p228_L5 at hp
    refine e_iload f228_5 rfl ?_
    refine e_aload_n f228_7 rfl ?_
    refine e_getI f228_8 (WF.t w 86 (by decide)) (by decide) ?_
    by_cases hc1 : (v4) < ((hI (h) (86) 20) : Int32)
    · rw [if_pos hc1] at hp
      refine e_icmp_ge_f f228_11 hc1 ?_
      refine e_iload_n f228_14 rfl ?_
      refine e_aload_n f228_15 rfl ?_
      refine e_iload_n f228_16 rfl ?_
      refine e_iload f228_17 rfl ?_
      refine e_iload_n f228_19 rfl ?_
      obtain ⟨r2, hr3, hp⟩ := bind_some hp
      try dsimp only at hp
      refine e_callV (st := [.int (v3)]) (o := 86) (as := [.int (a0), .int (v4), .int (a1)]) f228_20 (by decide) rfl rfl (Nat.le_of_ble_eq_true rfl) (WF.t w 86 (by decide)) (Nat.le_of_ble_eq_true rfl) (p226_ok d F (h) w (a0) (v4) (a1) r2 hr3) ?_
      show ex _ 228 (23, [some (.ref (86)), some (.int (a0)), some (.int (a1)), some (.int (v3)), some (.int (v4))], [.int (r2), .int (v3)], h) = _
      refine e_iconst (v := -1) f228_23 (by decide) ?_
      by_cases hc4 : (r2) = (((-1)) : Int32)
      · rw [if_pos hc4] at hp
        refine e_icmp_ne_f f228_24 hc4 ?_
        refine e_iconst (v := 1) f228_27 (by decide) ?_
        refine e_goto f228_28 ?_
        refine ex_weak (ls := [some (.ref (86)), some (.int (a0)), some (.int (a1)), none, some (.int (v4))]) (le2_ok ⟨Or.inr rfl, Or.inr rfl, Or.inr rfl, Or.inl rfl, Or.inr rfl, trivial⟩) ?_
        exact p228_j32_ok d F a0 a1 ((p228_L5 F a0 a1 n h)) (h) (w) (ih) (v4) (1) (v3) _ hp
      · rw [if_neg hc4] at hp
        refine e_icmp_ne_t f228_24 hc4 ?_
        refine e_iconst (v := 0) f228_31 (by decide) ?_
        refine ex_weak (ls := [some (.ref (86)), some (.int (a0)), some (.int (a1)), none, some (.int (v4))]) (le2_ok ⟨Or.inr rfl, Or.inr rfl, Or.inr rfl, Or.inl rfl, Or.inr rfl, trivial⟩) ?_
        exact p228_j32_ok d F a0 a1 ((p228_L5 F a0 a1 n h)) (h) (w) (ih) (v4) (0) (v3) _ hp
    · rw [if_neg hc1] at hp
      refine e_icmp_ge_t f228_11 hc1 ?_
      refine e_iload_n f228_40 rfl ?_
      have hp := Option.some.inj hp
      subst hp
      exact e_ireturn f228_41 (Or.inl rfl)
set_option maxRecDepth 100000 in
set_option maxHeartbeats 4000000 in
theorem p228_ok (d : Nat) (F : Nat) (h : HS) (w : WF h) (a0 : Int32) (a1 : Int32) (r : Int32) (hp : p228 F h a0 a1 = some r) : ex (d + 4) 228 (ent 228 [.ref (86), .int (a0), .int (a1)] h) = some (some (.int (r)), h) := by
  rw [show ent 228 [.ref (86), .int (a0), .int (a1)] h = (0, [some (.ref (86)), some (.int (a0)), some (.int (a1)), none, none], [], h) from by  rfl]
  refine ex_weak (ls := [some (.ref (86)), some (.int (a0)), some (.int (a1)), none, none]) (le2_ok ⟨Or.inr rfl, Or.inr rfl, Or.inr rfl, Or.inr rfl, Or.inr rfl, trivial⟩) ?_
  unfold p228 at hp
  refine e_iconst (v := 0) f228_0 (by decide) ?_
  refine e_istore_n (ls2 := [some (.ref (86)), some (.int (a0)), some (.int (a1)), some (.int (0)), none]) f228_1 (Nat.le_of_ble_eq_true rfl) rfl ?_
  refine e_iconst (v := 0) f228_2 (by decide) ?_
  refine e_istore (ls2 := [some (.ref (86)), some (.int (a0)), some (.int (a1)), some (.int (0)), some (.int (0))]) f228_3 (Nat.le_of_ble_eq_true rfl) rfl ?_
  refine ex_weak (ls := [some (.ref (86)), some (.int (a0)), some (.int (a1)), some (.int (0)), some (.int (0))]) (le2_ok ⟨Or.inr rfl, Or.inr rfl, Or.inr rfl, Or.inr rfl, Or.inr rfl, trivial⟩) ?_
  exact p228_L5_ok d F a0 a1 (h) (w) F (0) (0) _ hp
theorem f229_0 : fetch 229 0 = some (.aload_n 0, 0, 0, 0) := rfl
theorem f229_1 : fetch 229 1 = some (.iload_n 1, 0, 0, 0) := rfl
theorem f229_2 : fetch 229 2 = some (.invokevirtual 329, 218, 1, 0) := rfl
theorem f229_5 : fetch 229 5 = some (.ifCond .eq 10, 15, 0, 0) := rfl
theorem f229_8 : fetch 229 8 = some (.iload_n 2, 0, 0, 0) := rfl
theorem f229_9 : fetch 229 9 = some (.invokestatic 335, 188, 1, 1) := rfl
theorem f229_12 : fetch 229 12 = some (.ifCond .ne 5, 17, 0, 0) := rfl
theorem f229_15 : fetch 229 15 = some (.iconst (-1), 0, 0, 0) := rfl
theorem f229_16 : fetch 229 16 = some (.ireturn, 0, 0, 0) := rfl
theorem f229_17 : fetch 229 17 = some (.iload_n 3, 0, 0, 0) := rfl
theorem f229_18 : fetch 229 18 = some (.iconst (-1), 0, 0, 0) := rfl
theorem f229_19 : fetch 229 19 = some (.if_icmp .ne 10, 29, 0, 0) := rfl
theorem f229_22 : fetch 229 22 = some (.aload_n 0, 0, 0, 0) := rfl
theorem f229_23 : fetch 229 23 = some (.iload_n 1, 0, 0, 0) := rfl
theorem f229_24 : fetch 229 24 = some (.iload_n 2, 0, 0, 0) := rfl
theorem f229_25 : fetch 229 25 = some (.invokevirtual 352, 228, 2, 0) := rfl
theorem f229_28 : fetch 229 28 = some (.ireturn, 0, 0, 0) := rfl
theorem f229_29 : fetch 229 29 = some (.iload_n 3, 0, 0, 0) := rfl
theorem f229_30 : fetch 229 30 = some (.istore 4, 0, 0, 0) := rfl
theorem f229_32 : fetch 229 32 = some (.iconst 0, 0, 0, 0) := rfl
theorem f229_33 : fetch 229 33 = some (.istore 5, 0, 0, 0) := rfl
theorem f229_35 : fetch 229 35 = some (.iload 5, 0, 0, 0) := rfl
theorem f229_37 : fetch 229 37 = some (.aload_n 0, 0, 0, 0) := rfl
theorem f229_38 : fetch 229 38 = some (.getfield 314, 12, 20, 0) := rfl
theorem f229_41 : fetch 229 41 = some (.if_icmp .ge 36, 77, 0, 0) := rfl
theorem f229_44 : fetch 229 44 = some (.iload_n 3, 0, 0, 0) := rfl
theorem f229_45 : fetch 229 45 = some (.ifCond .lt 32, 77, 0, 0) := rfl
theorem f229_48 : fetch 229 48 = some (.aload_n 0, 0, 0, 0) := rfl
theorem f229_49 : fetch 229 49 = some (.iload_n 1, 0, 0, 0) := rfl
theorem f229_50 : fetch 229 50 = some (.iload 5, 0, 0, 0) := rfl
theorem f229_52 : fetch 229 52 = some (.iload_n 2, 0, 0, 0) := rfl
theorem f229_53 : fetch 229 53 = some (.invokevirtual 348, 226, 3, 0) := rfl
theorem f229_56 : fetch 229 56 = some (.iconst (-1), 0, 0, 0) := rfl
theorem f229_57 : fetch 229 57 = some (.if_icmp .ne 14, 71, 0, 0) := rfl
theorem f229_60 : fetch 229 60 = some (.iload 4, 0, 0, 0) := rfl
theorem f229_62 : fetch 229 62 = some (.ifCond .ne 6, 68, 0, 0) := rfl
theorem f229_65 : fetch 229 65 = some (.iload 5, 0, 0, 0) := rfl
theorem f229_67 : fetch 229 67 = some (.ireturn, 0, 0, 0) := rfl
theorem f229_68 : fetch 229 68 = some (.iinc 4 (-1), 0, 0, 0) := rfl
theorem f229_71 : fetch 229 71 = some (.iinc 5 1, 0, 0, 0) := rfl
theorem f229_74 : fetch 229 74 = some (.goto (-39), 35, 0, 0) := rfl
theorem f229_77 : fetch 229 77 = some (.iconst (-1), 0, 0, 0) := rfl
theorem f229_78 : fetch 229 78 = some (.ireturn, 0, 0, 0) := rfl
set_option maxRecDepth 100000 in
set_option maxHeartbeats 4000000 in
theorem p229_j71_ok (d : Nat) (F : Nat) (a0 : Int32) (a1 : Int32) (a2 : Int32) (K35 : Int32 → Int32 → Option (Int32)) (h : HS) (w : WF h) (hK35 : ∀ (u4 : Int32) (u5 : Int32) (r : Int32), K35 u4 u5 = some r → ex (d + 5) 229 (35, [some (.ref (86)), some (.int (a0)), some (.int (a1)), some (.int (a2)), some (.int (u4)), some (.int (u5))], [], h) = some (some (.int (r)), h)) (v4 : Int32) (v5 : Int32) (r : Int32) (hp : p229_j71 F a0 a1 a2 K35 h v4 v5 = some r) : ex (d + 5) 229 (71, [some (.ref (86)), some (.int (a0)), some (.int (a1)), some (.int (a2)), some (.int (v4)), some (.int (v5))], [], h) = some (some (.int (r)), h) := by
  unfold p229_j71 at hp
  refine e_iinc (ls2 := [some (.ref (86)), some (.int (a0)), some (.int (a1)), some (.int (a2)), some (.int (v4)), some (.int ((v5) + 1))]) f229_71 (by decide) rfl rfl ?_
  refine e_goto f229_74 ?_
  refine ex_weak (ls := [some (.ref (86)), some (.int (a0)), some (.int (a1)), some (.int (a2)), some (.int (v4)), some (.int ((v5) + 1))]) (le2_ok ⟨Or.inr rfl, Or.inr rfl, Or.inr rfl, Or.inr rfl, Or.inr rfl, Or.inr rfl, trivial⟩) ?_
  exact hK35 (v4) ((v5) + 1) _ hp
set_option maxRecDepth 100000 in
set_option maxHeartbeats 4000000 in
theorem p229_L35_ok (d : Nat) (F : Nat) (a0 : Int32) (a1 : Int32) (a2 : Int32) (h : HS) (w : WF h)  : ∀ (n : Nat) (v4 : Int32) (v5 : Int32) (r : Int32), p229_L35 F a0 a1 a2 n h v4 v5 = some r → ex (d + 5) 229 (35, [some (.ref (86)), some (.int (a0)), some (.int (a1)), some (.int (a2)), some (.int (v4)), some (.int (v5))], [], h) = some (some (.int (r)), h) := by
  intro n
  induction n with
  | zero => intro v4 v5 r hp; cases hp
  | succ n ih =>
    intro v4 v5 r hp
    unfold p229_L35 at hp
    refine e_iload f229_35 rfl ?_
    refine e_aload_n f229_37 rfl ?_
    refine e_getI f229_38 (WF.t w 86 (by decide)) (by decide) ?_
    by_cases hc10 : (v5) < ((hI (h) (86) 20) : Int32)
    · rw [if_pos hc10] at hp
      refine e_icmp_ge_f f229_41 hc10 ?_
      refine e_iload_n f229_44 rfl ?_
      by_cases hc11 : (a2) < (0 : Int32)
      · rw [if_pos hc11] at hp
        refine e_if_lt_t f229_45 hc11 ?_
        refine e_iconst (v := -1) f229_77 (by decide) ?_
        have hp := Option.some.inj hp
        subst hp
        exact e_ireturn f229_78 (Or.inl rfl)
      · rw [if_neg hc11] at hp
        refine e_if_lt_f f229_45 hc11 ?_
        refine e_aload_n f229_48 rfl ?_
        refine e_iload_n f229_49 rfl ?_
        refine e_iload f229_50 rfl ?_
        refine e_iload_n f229_52 rfl ?_
        obtain ⟨r12, hr13, hp⟩ := bind_some hp
        try dsimp only at hp
        refine e_callV (st := []) (o := 86) (as := [.int (a0), .int (v5), .int (a1)]) f229_53 (by decide) rfl rfl (Nat.le_of_ble_eq_true rfl) (WF.t w 86 (by decide)) (Nat.le_of_ble_eq_true rfl) (p226_ok (d + 1) F (h) w (a0) (v5) (a1) r12 hr13) ?_
        show ex _ 229 (56, [some (.ref (86)), some (.int (a0)), some (.int (a1)), some (.int (a2)), some (.int (v4)), some (.int (v5))], [.int (r12)], h) = _
        refine e_iconst (v := -1) f229_56 (by decide) ?_
        by_cases hc14 : (r12) = (((-1)) : Int32)
        · rw [if_pos hc14] at hp
          refine e_icmp_ne_f f229_57 hc14 ?_
          refine e_iload f229_60 rfl ?_
          by_cases hc15 : (v4) = (0 : Int32)
          · rw [if_pos hc15] at hp
            refine e_if_ne_f f229_62 hc15 ?_
            refine e_iload f229_65 rfl ?_
            have hp := Option.some.inj hp
            subst hp
            exact e_ireturn f229_67 (Or.inl rfl)
          · rw [if_neg hc15] at hp
            refine e_if_ne_t f229_62 hc15 ?_
            refine e_iinc (ls2 := [some (.ref (86)), some (.int (a0)), some (.int (a1)), some (.int (a2)), some (.int ((v4) + (-1))), some (.int (v5))]) f229_68 (by decide) rfl rfl ?_
            refine ex_weak (ls := [some (.ref (86)), some (.int (a0)), some (.int (a1)), some (.int (a2)), some (.int ((v4) + (-1))), some (.int (v5))]) (le2_ok ⟨Or.inr rfl, Or.inr rfl, Or.inr rfl, Or.inr rfl, Or.inr rfl, Or.inr rfl, trivial⟩) ?_
            exact p229_j71_ok d F a0 a1 a2 ((p229_L35 F a0 a1 a2 n h)) (h) (w) (ih) ((v4) + (-1)) (v5) _ hp
        · rw [if_neg hc14] at hp
          refine e_icmp_ne_t f229_57 hc14 ?_
          refine ex_weak (ls := [some (.ref (86)), some (.int (a0)), some (.int (a1)), some (.int (a2)), some (.int (v4)), some (.int (v5))]) (le2_ok ⟨Or.inr rfl, Or.inr rfl, Or.inr rfl, Or.inr rfl, Or.inr rfl, Or.inr rfl, trivial⟩) ?_
          exact p229_j71_ok d F a0 a1 a2 ((p229_L35 F a0 a1 a2 n h)) (h) (w) (ih) (v4) (v5) _ hp
    · rw [if_neg hc10] at hp
      refine e_icmp_ge_t f229_41 hc10 ?_
      refine e_iconst (v := -1) f229_77 (by decide) ?_
      have hp := Option.some.inj hp
      subst hp
      exact e_ireturn f229_78 (Or.inl rfl)
set_option maxRecDepth 100000 in
set_option maxHeartbeats 4000000 in
theorem p229_ok (d : Nat) (F : Nat) (h : HS) (w : WF h) (a0 : Int32) (a1 : Int32) (a2 : Int32) (r : Int32) (hp : p229 F h a0 a1 a2 = some r) : ex (d + 5) 229 (ent 229 [.ref (86), .int (a0), .int (a1), .int (a2)] h) = some (some (.int (r)), h) := by
  rw [show ent 229 [.ref (86), .int (a0), .int (a1), .int (a2)] h = (0, [some (.ref (86)), some (.int (a0)), some (.int (a1)), some (.int (a2)), none, none], [], h) from by  rfl]
  refine ex_weak (ls := [some (.ref (86)), some (.int (a0)), some (.int (a1)), some (.int (a2)), none, none]) (le2_ok ⟨Or.inr rfl, Or.inr rfl, Or.inr rfl, Or.inr rfl, Or.inr rfl, Or.inr rfl, trivial⟩) ?_
  unfold p229 at hp
  refine e_aload_n f229_0 rfl ?_
  refine e_iload_n f229_1 rfl ?_
  obtain ⟨r1, hr2, hp⟩ := bind_some hp
  try dsimp only at hp
  refine e_callV (st := []) (o := 86) (as := [.int (a0)]) f229_2 (by decide) rfl rfl (Nat.le_of_ble_eq_true rfl) (WF.t w 86 (by decide)) (Nat.le_of_ble_eq_true rfl) (p218_ok (d + 3) (h) w (a0) r1 hr2) ?_
  show ex _ 229 (5, [some (.ref (86)), some (.int (a0)), some (.int (a1)), some (.int (a2)), none, none], [.int (r1)], h) = _
  by_cases hc3 : (r1) = (0 : Int32)
  · rw [if_pos hc3] at hp
    refine e_if_eq_t f229_5 hc3 ?_
    refine e_iconst (v := -1) f229_15 (by decide) ?_
    have hp := Option.some.inj hp
    subst hp
    exact e_ireturn f229_16 (Or.inl rfl)
  · rw [if_neg hc3] at hp
    refine e_if_eq_f f229_5 hc3 ?_
    refine e_iload_n f229_8 rfl ?_
    obtain ⟨r4, hr5, hp⟩ := bind_some hp
    try dsimp only at hp
    refine e_callS (st := []) (as := [.int (a1)]) f229_9 (by decide) rfl rfl (Nat.le_of_ble_eq_true rfl) (Nat.le_of_ble_eq_true rfl) (p188_ok (d + 3) (h) w (a1) r4 hr5) ?_
    show ex _ 229 (12, [some (.ref (86)), some (.int (a0)), some (.int (a1)), some (.int (a2)), none, none], [.int (r4)], h) = _
    by_cases hc6 : (r4) = (0 : Int32)
    · rw [if_pos hc6] at hp
      refine e_if_ne_f f229_12 hc6 ?_
      refine e_iconst (v := -1) f229_15 (by decide) ?_
      have hp := Option.some.inj hp
      subst hp
      exact e_ireturn f229_16 (Or.inl rfl)
    · rw [if_neg hc6] at hp
      refine e_if_ne_t f229_12 hc6 ?_
      refine e_iload_n f229_17 rfl ?_
      refine e_iconst (v := -1) f229_18 (by decide) ?_
      by_cases hc7 : (a2) = (((-1)) : Int32)
      · rw [if_pos hc7] at hp
        refine e_icmp_ne_f f229_19 hc7 ?_
        refine e_aload_n f229_22 rfl ?_
        refine e_iload_n f229_23 rfl ?_
        refine e_iload_n f229_24 rfl ?_
        obtain ⟨r8, hr9, hp⟩ := bind_some hp
        try dsimp only at hp
        refine e_callV (st := []) (o := 86) (as := [.int (a0), .int (a1)]) f229_25 (by decide) rfl rfl (Nat.le_of_ble_eq_true rfl) (WF.t w 86 (by decide)) (Nat.le_of_ble_eq_true rfl) (p228_ok d F (h) w (a0) (a1) r8 hr9) ?_
        show ex _ 229 (28, [some (.ref (86)), some (.int (a0)), some (.int (a1)), some (.int (a2)), none, none], [.int (r8)], h) = _
        have hp := Option.some.inj hp
        subst hp
        exact e_ireturn f229_28 (Or.inl rfl)
      · rw [if_neg hc7] at hp
        refine e_icmp_ne_t f229_19 hc7 ?_
        refine e_iload_n f229_29 rfl ?_
        refine e_istore (ls2 := [some (.ref (86)), some (.int (a0)), some (.int (a1)), some (.int (a2)), some (.int (a2)), none]) f229_30 (Nat.le_of_ble_eq_true rfl) rfl ?_
        refine e_iconst (v := 0) f229_32 (by decide) ?_
        refine e_istore (ls2 := [some (.ref (86)), some (.int (a0)), some (.int (a1)), some (.int (a2)), some (.int (a2)), some (.int (0))]) f229_33 (Nat.le_of_ble_eq_true rfl) rfl ?_
        refine ex_weak (ls := [some (.ref (86)), some (.int (a0)), some (.int (a1)), some (.int (a2)), some (.int (a2)), some (.int (0))]) (le2_ok ⟨Or.inr rfl, Or.inr rfl, Or.inr rfl, Or.inr rfl, Or.inr rfl, Or.inr rfl, trivial⟩) ?_
        exact p229_L35_ok d F a0 a1 a2 (h) (w) F (a2) (0) _ hp
theorem f230_0 : fetch 230 0 = some (.iconst 0, 0, 0, 0) := rfl
theorem f230_1 : fetch 230 1 = some (.istore_n 3, 0, 0, 0) := rfl
theorem f230_2 : fetch 230 2 = some (.iconst 0, 0, 0, 0) := rfl
theorem f230_3 : fetch 230 3 = some (.istore 4, 0, 0, 0) := rfl
theorem f230_5 : fetch 230 5 = some (.iload 4, 0, 0, 0) := rfl
theorem f230_7 : fetch 230 7 = some (.aload_n 0, 0, 0, 0) := rfl
theorem f230_8 : fetch 230 8 = some (.getfield 304, 12, 32, 0) := rfl
theorem f230_11 : fetch 230 11 = some (.if_icmp .ge 38, 49, 0, 0) := rfl
theorem f230_14 : fetch 230 14 = some (.iload_n 3, 0, 0, 0) := rfl
theorem f230_15 : fetch 230 15 = some (.aload_n 0, 0, 0, 0) := rfl
theorem f230_16 : fetch 230 16 = some (.getfield 85, 12, 37, 2) := rfl
theorem f230_19 : fetch 230 19 = some (.iload 4, 0, 0, 0) := rfl
theorem f230_21 : fetch 230 21 = some (.iaload, 0, 0, 0) := rfl
theorem f230_22 : fetch 230 22 = some (.iload_n 1, 0, 0, 0) := rfl
theorem f230_23 : fetch 230 23 = some (.if_icmp .ne 17, 40, 0, 0) := rfl
theorem f230_26 : fetch 230 26 = some (.aload_n 0, 0, 0, 0) := rfl
theorem f230_27 : fetch 230 27 = some (.iload 4, 0, 0, 0) := rfl
theorem f230_29 : fetch 230 29 = some (.iload_n 2, 0, 0, 0) := rfl
theorem f230_30 : fetch 230 30 = some (.invokevirtual 338, 222, 2, 0) := rfl
theorem f230_33 : fetch 230 33 = some (.ifCond .eq 7, 40, 0, 0) := rfl
theorem f230_36 : fetch 230 36 = some (.iconst 1, 0, 0, 0) := rfl
theorem f230_37 : fetch 230 37 = some (.goto 4, 41, 0, 0) := rfl
theorem f230_40 : fetch 230 40 = some (.iconst 0, 0, 0, 0) := rfl
theorem f230_41 : fetch 230 41 = some (.iadd, 0, 0, 0) := rfl
theorem f230_42 : fetch 230 42 = some (.istore_n 3, 0, 0, 0) := rfl
theorem f230_43 : fetch 230 43 = some (.iinc 4 1, 0, 0, 0) := rfl
theorem f230_46 : fetch 230 46 = some (.goto (-41), 5, 0, 0) := rfl
theorem f230_49 : fetch 230 49 = some (.iload_n 3, 0, 0, 0) := rfl
theorem f230_50 : fetch 230 50 = some (.ireturn, 0, 0, 0) := rfl
set_option maxRecDepth 100000 in
set_option maxHeartbeats 4000000 in
theorem p230_j41_ok (d : Nat) (F : Nat) (a0 : Int32) (a1 : Int32) (K5 : Int32 → Int32 → Option (Int32)) (h : HS) (w : WF h) (hK5 : ∀ (u3 : Int32) (u4 : Int32) (r : Int32), K5 u3 u4 = some r → ex (d + 1) 230 (5, [some (.ref (86)), some (.int (a0)), some (.int (a1)), some (.int (u3)), some (.int (u4))], [], h) = some (some (.int (r)), h)) (v4 : Int32) (s0 : Int32) (s1 : Int32) (r : Int32) (hp : p230_j41 F a0 a1 K5 h v4 s0 s1 = some r) : ex (d + 1) 230 (41, [some (.ref (86)), some (.int (a0)), some (.int (a1)), none, some (.int (v4))], [.int (s0), .int (s1)], h) = some (some (.int (r)), h) := by
  unfold p230_j41 at hp
  refine e_iadd f230_41 ?_
  refine e_istore_n (ls2 := [some (.ref (86)), some (.int (a0)), some (.int (a1)), some (.int ((s1) + (s0))), some (.int (v4))]) f230_42 (Nat.le_of_ble_eq_true rfl) rfl ?_
  refine e_iinc (ls2 := [some (.ref (86)), some (.int (a0)), some (.int (a1)), some (.int ((s1) + (s0))), some (.int ((v4) + 1))]) f230_43 (by decide) rfl rfl ?_
  refine e_goto f230_46 ?_
  refine ex_weak (ls := [some (.ref (86)), some (.int (a0)), some (.int (a1)), some (.int ((s1) + (s0))), some (.int ((v4) + 1))]) (le2_ok ⟨Or.inr rfl, Or.inr rfl, Or.inr rfl, Or.inr rfl, Or.inr rfl, trivial⟩) ?_
  exact hK5 ((s1) + (s0)) ((v4) + 1) _ hp
set_option maxRecDepth 100000 in
set_option maxHeartbeats 4000000 in
theorem p230_j40_ok (d : Nat) (F : Nat) (a0 : Int32) (a1 : Int32) (K5 : Int32 → Int32 → Option (Int32)) (h : HS) (w : WF h) (hK5 : ∀ (u3 : Int32) (u4 : Int32) (r : Int32), K5 u3 u4 = some r → ex (d + 1) 230 (5, [some (.ref (86)), some (.int (a0)), some (.int (a1)), some (.int (u3)), some (.int (u4))], [], h) = some (some (.int (r)), h)) (v4 : Int32) (s0 : Int32) (r : Int32) (hp : p230_j40 F a0 a1 K5 h v4 s0 = some r) : ex (d + 1) 230 (40, [some (.ref (86)), some (.int (a0)), some (.int (a1)), none, some (.int (v4))], [.int (s0)], h) = some (some (.int (r)), h) := by
  unfold p230_j40 at hp
  refine e_iconst (v := 0) f230_40 (by decide) ?_
  refine ex_weak (ls := [some (.ref (86)), some (.int (a0)), some (.int (a1)), none, some (.int (v4))]) (le2_ok ⟨Or.inr rfl, Or.inr rfl, Or.inr rfl, Or.inl rfl, Or.inr rfl, trivial⟩) ?_
  exact p230_j41_ok d F a0 a1 (K5) (h) (w) (hK5) (v4) (0) (s0) _ hp
set_option maxRecDepth 100000 in
set_option maxHeartbeats 4000000 in
theorem p230_L5_ok (d : Nat) (F : Nat) (a0 : Int32) (a1 : Int32) (h : HS) (w : WF h)  : ∀ (n : Nat) (v3 : Int32) (v4 : Int32) (r : Int32), p230_L5 F a0 a1 n h v3 v4 = some r → ex (d + 1) 230 (5, [some (.ref (86)), some (.int (a0)), some (.int (a1)), some (.int (v3)), some (.int (v4))], [], h) = some (some (.int (r)), h) := by
  intro n
  induction n with
  | zero => intro v3 v4 r hp; cases hp
  | succ n ih =>
    intro v3 v4 r hp
    unfold p230_L5 at hp
    refine e_iload f230_5 rfl ?_
    refine e_aload_n f230_7 rfl ?_
    refine e_getI f230_8 (WF.t w 86 (by decide)) (by decide) ?_
    by_cases hc1 : (v4) < ((hI (h) (86) 32) : Int32)
    · rw [if_pos hc1] at hp
      refine e_icmp_ge_f f230_11 hc1 ?_
      refine e_iload_n f230_14 rfl ?_
      refine e_aload_n f230_15 rfl ?_
      refine e_getR f230_16 (WF.t w 86 (by decide)) rfl (WF.r (q := 112) w 86 37 (by decide)) ?_
      refine e_iload f230_19 rfl ?_
      by_cases hg2 : (v4) < (0 : Int32) ∨ 200 ≤ (v4).toNatClampNeg
      · rw [if_pos hg2] at hp; cases hp
      rw [if_neg hg2] at hp
      refine e_iaload f230_21 (Or.inl (WF.t w 112 (by decide))) (WF.n w 112 (by decide)) hg2 ?_
      refine e_iload_n f230_22 rfl ?_
      by_cases hc3 : (hI (h) (112) (v4).toNatClampNeg) = ((a0) : Int32)
      · rw [if_pos hc3] at hp
        refine e_icmp_ne_f f230_23 hc3 ?_
        refine e_aload_n f230_26 rfl ?_
        refine e_iload f230_27 rfl ?_
        refine e_iload_n f230_29 rfl ?_
        obtain ⟨r4, hr5, hp⟩ := bind_some hp
        try dsimp only at hp
        refine e_callV (st := [.int (v3)]) (o := 86) (as := [.int (v4), .int (a1)]) f230_30 (by decide) rfl rfl (Nat.le_of_ble_eq_true rfl) (WF.t w 86 (by decide)) (Nat.le_of_ble_eq_true rfl) (p222_ok d (h) w (v4) (a1) r4 hr5) ?_
        show ex _ 230 (33, [some (.ref (86)), some (.int (a0)), some (.int (a1)), some (.int (v3)), some (.int (v4))], [.int (r4), .int (v3)], h) = _
        by_cases hc6 : (r4) = (0 : Int32)
        · rw [if_pos hc6] at hp
          refine e_if_eq_t f230_33 hc6 ?_
          refine ex_weak (ls := [some (.ref (86)), some (.int (a0)), some (.int (a1)), none, some (.int (v4))]) (le2_ok ⟨Or.inr rfl, Or.inr rfl, Or.inr rfl, Or.inl rfl, Or.inr rfl, trivial⟩) ?_
          exact p230_j40_ok d F a0 a1 ((p230_L5 F a0 a1 n h)) (h) (w) (ih) (v4) (v3) _ hp
        · rw [if_neg hc6] at hp
          refine e_if_eq_f f230_33 hc6 ?_
          refine e_iconst (v := 1) f230_36 (by decide) ?_
          refine e_goto f230_37 ?_
          refine ex_weak (ls := [some (.ref (86)), some (.int (a0)), some (.int (a1)), none, some (.int (v4))]) (le2_ok ⟨Or.inr rfl, Or.inr rfl, Or.inr rfl, Or.inl rfl, Or.inr rfl, trivial⟩) ?_
          exact p230_j41_ok d F a0 a1 ((p230_L5 F a0 a1 n h)) (h) (w) (ih) (v4) (1) (v3) _ hp
      · rw [if_neg hc3] at hp
        refine e_icmp_ne_t f230_23 hc3 ?_
        refine ex_weak (ls := [some (.ref (86)), some (.int (a0)), some (.int (a1)), none, some (.int (v4))]) (le2_ok ⟨Or.inr rfl, Or.inr rfl, Or.inr rfl, Or.inl rfl, Or.inr rfl, trivial⟩) ?_
        exact p230_j40_ok d F a0 a1 ((p230_L5 F a0 a1 n h)) (h) (w) (ih) (v4) (v3) _ hp
    · rw [if_neg hc1] at hp
      refine e_icmp_ge_t f230_11 hc1 ?_
      refine e_iload_n f230_49 rfl ?_
      have hp := Option.some.inj hp
      subst hp
      exact e_ireturn f230_50 (Or.inl rfl)
set_option maxRecDepth 100000 in
set_option maxHeartbeats 4000000 in
theorem p230_ok (d : Nat) (F : Nat) (h : HS) (w : WF h) (a0 : Int32) (a1 : Int32) (r : Int32) (hp : p230 F h a0 a1 = some r) : ex (d + 1) 230 (ent 230 [.ref (86), .int (a0), .int (a1)] h) = some (some (.int (r)), h) := by
  rw [show ent 230 [.ref (86), .int (a0), .int (a1)] h = (0, [some (.ref (86)), some (.int (a0)), some (.int (a1)), none, none], [], h) from by  rfl]
  refine ex_weak (ls := [some (.ref (86)), some (.int (a0)), some (.int (a1)), none, none]) (le2_ok ⟨Or.inr rfl, Or.inr rfl, Or.inr rfl, Or.inr rfl, Or.inr rfl, trivial⟩) ?_
  unfold p230 at hp
  refine e_iconst (v := 0) f230_0 (by decide) ?_
  refine e_istore_n (ls2 := [some (.ref (86)), some (.int (a0)), some (.int (a1)), some (.int (0)), none]) f230_1 (Nat.le_of_ble_eq_true rfl) rfl ?_
  refine e_iconst (v := 0) f230_2 (by decide) ?_
  refine e_istore (ls2 := [some (.ref (86)), some (.int (a0)), some (.int (a1)), some (.int (0)), some (.int (0))]) f230_3 (Nat.le_of_ble_eq_true rfl) rfl ?_
  refine ex_weak (ls := [some (.ref (86)), some (.int (a0)), some (.int (a1)), some (.int (0)), some (.int (0))]) (le2_ok ⟨Or.inr rfl, Or.inr rfl, Or.inr rfl, Or.inr rfl, Or.inr rfl, trivial⟩) ?_
  exact p230_L5_ok d F a0 a1 (h) (w) F (0) (0) _ hp
theorem f231_0 : fetch 231 0 = some (.iconst 0, 0, 0, 0) := rfl
theorem f231_1 : fetch 231 1 = some (.istore_n 3, 0, 0, 0) := rfl
theorem f231_2 : fetch 231 2 = some (.iconst 0, 0, 0, 0) := rfl
theorem f231_3 : fetch 231 3 = some (.istore 4, 0, 0, 0) := rfl
theorem f231_5 : fetch 231 5 = some (.iload 4, 0, 0, 0) := rfl
theorem f231_7 : fetch 231 7 = some (.aload_n 0, 0, 0, 0) := rfl
theorem f231_8 : fetch 231 8 = some (.getfield 307, 12, 33, 0) := rfl
theorem f231_11 : fetch 231 11 = some (.if_icmp .ge 38, 49, 0, 0) := rfl
theorem f231_14 : fetch 231 14 = some (.iload_n 3, 0, 0, 0) := rfl
theorem f231_15 : fetch 231 15 = some (.aload_n 0, 0, 0, 0) := rfl
theorem f231_16 : fetch 231 16 = some (.getfield 112, 12, 46, 2) := rfl
theorem f231_19 : fetch 231 19 = some (.iload 4, 0, 0, 0) := rfl
theorem f231_21 : fetch 231 21 = some (.iaload, 0, 0, 0) := rfl
theorem f231_22 : fetch 231 22 = some (.iload_n 1, 0, 0, 0) := rfl
theorem f231_23 : fetch 231 23 = some (.if_icmp .ne 17, 40, 0, 0) := rfl
theorem f231_26 : fetch 231 26 = some (.aload_n 0, 0, 0, 0) := rfl
theorem f231_27 : fetch 231 27 = some (.iload 4, 0, 0, 0) := rfl
theorem f231_29 : fetch 231 29 = some (.iload_n 2, 0, 0, 0) := rfl
theorem f231_30 : fetch 231 30 = some (.invokevirtual 355, 223, 2, 0) := rfl
theorem f231_33 : fetch 231 33 = some (.ifCond .eq 7, 40, 0, 0) := rfl
theorem f231_36 : fetch 231 36 = some (.iconst 1, 0, 0, 0) := rfl
theorem f231_37 : fetch 231 37 = some (.goto 4, 41, 0, 0) := rfl
theorem f231_40 : fetch 231 40 = some (.iconst 0, 0, 0, 0) := rfl
theorem f231_41 : fetch 231 41 = some (.iadd, 0, 0, 0) := rfl
theorem f231_42 : fetch 231 42 = some (.istore_n 3, 0, 0, 0) := rfl
theorem f231_43 : fetch 231 43 = some (.iinc 4 1, 0, 0, 0) := rfl
theorem f231_46 : fetch 231 46 = some (.goto (-41), 5, 0, 0) := rfl
theorem f231_49 : fetch 231 49 = some (.iload_n 3, 0, 0, 0) := rfl
theorem f231_50 : fetch 231 50 = some (.ireturn, 0, 0, 0) := rfl
set_option maxRecDepth 100000 in
set_option maxHeartbeats 4000000 in
theorem p231_j41_ok (d : Nat) (F : Nat) (a0 : Int32) (a1 : Int32) (K5 : Int32 → Int32 → Option (Int32)) (h : HS) (w : WF h) (hK5 : ∀ (u3 : Int32) (u4 : Int32) (r : Int32), K5 u3 u4 = some r → ex (d + 1) 231 (5, [some (.ref (86)), some (.int (a0)), some (.int (a1)), some (.int (u3)), some (.int (u4))], [], h) = some (some (.int (r)), h)) (v4 : Int32) (s0 : Int32) (s1 : Int32) (r : Int32) (hp : p231_j41 F a0 a1 K5 h v4 s0 s1 = some r) : ex (d + 1) 231 (41, [some (.ref (86)), some (.int (a0)), some (.int (a1)), none, some (.int (v4))], [.int (s0), .int (s1)], h) = some (some (.int (r)), h) := by
  unfold p231_j41 at hp
  refine e_iadd f231_41 ?_
  refine e_istore_n (ls2 := [some (.ref (86)), some (.int (a0)), some (.int (a1)), some (.int ((s1) + (s0))), some (.int (v4))]) f231_42 (Nat.le_of_ble_eq_true rfl) rfl ?_
  refine e_iinc (ls2 := [some (.ref (86)), some (.int (a0)), some (.int (a1)), some (.int ((s1) + (s0))), some (.int ((v4) + 1))]) f231_43 (by decide) rfl rfl ?_
  refine e_goto f231_46 ?_
  refine ex_weak (ls := [some (.ref (86)), some (.int (a0)), some (.int (a1)), some (.int ((s1) + (s0))), some (.int ((v4) + 1))]) (le2_ok ⟨Or.inr rfl, Or.inr rfl, Or.inr rfl, Or.inr rfl, Or.inr rfl, trivial⟩) ?_
  exact hK5 ((s1) + (s0)) ((v4) + 1) _ hp
set_option maxRecDepth 100000 in
set_option maxHeartbeats 4000000 in
theorem p231_j40_ok (d : Nat) (F : Nat) (a0 : Int32) (a1 : Int32) (K5 : Int32 → Int32 → Option (Int32)) (h : HS) (w : WF h) (hK5 : ∀ (u3 : Int32) (u4 : Int32) (r : Int32), K5 u3 u4 = some r → ex (d + 1) 231 (5, [some (.ref (86)), some (.int (a0)), some (.int (a1)), some (.int (u3)), some (.int (u4))], [], h) = some (some (.int (r)), h)) (v4 : Int32) (s0 : Int32) (r : Int32) (hp : p231_j40 F a0 a1 K5 h v4 s0 = some r) : ex (d + 1) 231 (40, [some (.ref (86)), some (.int (a0)), some (.int (a1)), none, some (.int (v4))], [.int (s0)], h) = some (some (.int (r)), h) := by
  unfold p231_j40 at hp
  refine e_iconst (v := 0) f231_40 (by decide) ?_
  refine ex_weak (ls := [some (.ref (86)), some (.int (a0)), some (.int (a1)), none, some (.int (v4))]) (le2_ok ⟨Or.inr rfl, Or.inr rfl, Or.inr rfl, Or.inl rfl, Or.inr rfl, trivial⟩) ?_
  exact p231_j41_ok d F a0 a1 (K5) (h) (w) (hK5) (v4) (0) (s0) _ hp
set_option maxRecDepth 100000 in
set_option maxHeartbeats 4000000 in
theorem p231_L5_ok (d : Nat) (F : Nat) (a0 : Int32) (a1 : Int32) (h : HS) (w : WF h)  : ∀ (n : Nat) (v3 : Int32) (v4 : Int32) (r : Int32), p231_L5 F a0 a1 n h v3 v4 = some r → ex (d + 1) 231 (5, [some (.ref (86)), some (.int (a0)), some (.int (a1)), some (.int (v3)), some (.int (v4))], [], h) = some (some (.int (r)), h) := by
  intro n
  induction n with
  | zero => intro v3 v4 r hp; cases hp
  | succ n ih =>
    intro v3 v4 r hp
    unfold p231_L5 at hp
    refine e_iload f231_5 rfl ?_
    refine e_aload_n f231_7 rfl ?_
    refine e_getI f231_8 (WF.t w 86 (by decide)) (by decide) ?_
    by_cases hc1 : (v4) < ((hI (h) (86) 33) : Int32)
    · rw [if_pos hc1] at hp
      refine e_icmp_ge_f f231_11 hc1 ?_
      refine e_iload_n f231_14 rfl ?_
      refine e_aload_n f231_15 rfl ?_
      refine e_getR f231_16 (WF.t w 86 (by decide)) rfl (WF.r (q := 121) w 86 46 (by decide)) ?_
      refine e_iload f231_19 rfl ?_
      by_cases hg2 : (v4) < (0 : Int32) ∨ 200 ≤ (v4).toNatClampNeg
      · rw [if_pos hg2] at hp; cases hp
      rw [if_neg hg2] at hp
      refine e_iaload f231_21 (Or.inl (WF.t w 121 (by decide))) (WF.n w 121 (by decide)) hg2 ?_
      refine e_iload_n f231_22 rfl ?_
      by_cases hc3 : (hI (h) (121) (v4).toNatClampNeg) = ((a0) : Int32)
      · rw [if_pos hc3] at hp
        refine e_icmp_ne_f f231_23 hc3 ?_
        refine e_aload_n f231_26 rfl ?_
        refine e_iload f231_27 rfl ?_
        refine e_iload_n f231_29 rfl ?_
        obtain ⟨r4, hr5, hp⟩ := bind_some hp
        try dsimp only at hp
        refine e_callV (st := [.int (v3)]) (o := 86) (as := [.int (v4), .int (a1)]) f231_30 (by decide) rfl rfl (Nat.le_of_ble_eq_true rfl) (WF.t w 86 (by decide)) (Nat.le_of_ble_eq_true rfl) (p223_ok d (h) w (v4) (a1) r4 hr5) ?_
        show ex _ 231 (33, [some (.ref (86)), some (.int (a0)), some (.int (a1)), some (.int (v3)), some (.int (v4))], [.int (r4), .int (v3)], h) = _
        by_cases hc6 : (r4) = (0 : Int32)
        · rw [if_pos hc6] at hp
          refine e_if_eq_t f231_33 hc6 ?_
          refine ex_weak (ls := [some (.ref (86)), some (.int (a0)), some (.int (a1)), none, some (.int (v4))]) (le2_ok ⟨Or.inr rfl, Or.inr rfl, Or.inr rfl, Or.inl rfl, Or.inr rfl, trivial⟩) ?_
          exact p231_j40_ok d F a0 a1 ((p231_L5 F a0 a1 n h)) (h) (w) (ih) (v4) (v3) _ hp
        · rw [if_neg hc6] at hp
          refine e_if_eq_f f231_33 hc6 ?_
          refine e_iconst (v := 1) f231_36 (by decide) ?_
          refine e_goto f231_37 ?_
          refine ex_weak (ls := [some (.ref (86)), some (.int (a0)), some (.int (a1)), none, some (.int (v4))]) (le2_ok ⟨Or.inr rfl, Or.inr rfl, Or.inr rfl, Or.inl rfl, Or.inr rfl, trivial⟩) ?_
          exact p231_j41_ok d F a0 a1 ((p231_L5 F a0 a1 n h)) (h) (w) (ih) (v4) (1) (v3) _ hp
      · rw [if_neg hc3] at hp
        refine e_icmp_ne_t f231_23 hc3 ?_
        refine ex_weak (ls := [some (.ref (86)), some (.int (a0)), some (.int (a1)), none, some (.int (v4))]) (le2_ok ⟨Or.inr rfl, Or.inr rfl, Or.inr rfl, Or.inl rfl, Or.inr rfl, trivial⟩) ?_
        exact p231_j40_ok d F a0 a1 ((p231_L5 F a0 a1 n h)) (h) (w) (ih) (v4) (v3) _ hp
    · rw [if_neg hc1] at hp
      refine e_icmp_ge_t f231_11 hc1 ?_
      refine e_iload_n f231_49 rfl ?_
      have hp := Option.some.inj hp
      subst hp
      exact e_ireturn f231_50 (Or.inl rfl)
set_option maxRecDepth 100000 in
set_option maxHeartbeats 4000000 in
theorem p231_ok (d : Nat) (F : Nat) (h : HS) (w : WF h) (a0 : Int32) (a1 : Int32) (r : Int32) (hp : p231 F h a0 a1 = some r) : ex (d + 1) 231 (ent 231 [.ref (86), .int (a0), .int (a1)] h) = some (some (.int (r)), h) := by
  rw [show ent 231 [.ref (86), .int (a0), .int (a1)] h = (0, [some (.ref (86)), some (.int (a0)), some (.int (a1)), none, none], [], h) from by  rfl]
  refine ex_weak (ls := [some (.ref (86)), some (.int (a0)), some (.int (a1)), none, none]) (le2_ok ⟨Or.inr rfl, Or.inr rfl, Or.inr rfl, Or.inr rfl, Or.inr rfl, trivial⟩) ?_
  unfold p231 at hp
  refine e_iconst (v := 0) f231_0 (by decide) ?_
  refine e_istore_n (ls2 := [some (.ref (86)), some (.int (a0)), some (.int (a1)), some (.int (0)), none]) f231_1 (Nat.le_of_ble_eq_true rfl) rfl ?_
  refine e_iconst (v := 0) f231_2 (by decide) ?_
  refine e_istore (ls2 := [some (.ref (86)), some (.int (a0)), some (.int (a1)), some (.int (0)), some (.int (0))]) f231_3 (Nat.le_of_ble_eq_true rfl) rfl ?_
  refine ex_weak (ls := [some (.ref (86)), some (.int (a0)), some (.int (a1)), some (.int (0)), some (.int (0))]) (le2_ok ⟨Or.inr rfl, Or.inr rfl, Or.inr rfl, Or.inr rfl, Or.inr rfl, trivial⟩) ?_
  exact p231_L5_ok d F a0 a1 (h) (w) F (0) (0) _ hp
theorem f232_0 : fetch 232 0 = some (.aload_n 0, 0, 0, 0) := rfl
theorem f232_1 : fetch 232 1 = some (.iload_n 1, 0, 0, 0) := rfl
theorem f232_2 : fetch 232 2 = some (.invokevirtual 329, 218, 1, 0) := rfl
theorem f232_5 : fetch 232 5 = some (.ifCond .eq 39, 44, 0, 0) := rfl
theorem f232_8 : fetch 232 8 = some (.iload_n 2, 0, 0, 0) := rfl
theorem f232_9 : fetch 232 9 = some (.invokestatic 335, 188, 1, 1) := rfl
theorem f232_12 : fetch 232 12 = some (.ifCond .eq 32, 44, 0, 0) := rfl
theorem f232_15 : fetch 232 15 = some (.aload_n 0, 0, 0, 0) := rfl
theorem f232_16 : fetch 232 16 = some (.iload_n 1, 0, 0, 0) := rfl
theorem f232_17 : fetch 232 17 = some (.iload_n 2, 0, 0, 0) := rfl
theorem f232_18 : fetch 232 18 = some (.invokevirtual 358, 230, 2, 0) := rfl
theorem f232_21 : fetch 232 21 = some (.ifCond .le 23, 44, 0, 0) := rfl
theorem f232_24 : fetch 232 24 = some (.aload_n 0, 0, 0, 0) := rfl
theorem f232_25 : fetch 232 25 = some (.iload_n 1, 0, 0, 0) := rfl
theorem f232_26 : fetch 232 26 = some (.iload_n 2, 0, 0, 0) := rfl
theorem f232_27 : fetch 232 27 = some (.invokevirtual 352, 228, 2, 0) := rfl
theorem f232_30 : fetch 232 30 = some (.iconst 1, 0, 0, 0) := rfl
theorem f232_31 : fetch 232 31 = some (.if_icmp .ne 13, 44, 0, 0) := rfl
theorem f232_34 : fetch 232 34 = some (.aload_n 0, 0, 0, 0) := rfl
theorem f232_35 : fetch 232 35 = some (.iload_n 1, 0, 0, 0) := rfl
theorem f232_36 : fetch 232 36 = some (.iload_n 2, 0, 0, 0) := rfl
theorem f232_37 : fetch 232 37 = some (.iconst 0, 0, 0, 0) := rfl
theorem f232_38 : fetch 232 38 = some (.invokevirtual 361, 229, 3, 0) := rfl
theorem f232_41 : fetch 232 41 = some (.goto 4, 45, 0, 0) := rfl
theorem f232_44 : fetch 232 44 = some (.iconst (-1), 0, 0, 0) := rfl
theorem f232_45 : fetch 232 45 = some (.ireturn, 0, 0, 0) := rfl
set_option maxRecDepth 100000 in
set_option maxHeartbeats 4000000 in
theorem p232_ok (d : Nat) (F : Nat) (h : HS) (w : WF h) (a0 : Int32) (a1 : Int32) (r : Int32) (hp : p232 F h a0 a1 = some r) : ex (d + 6) 232 (ent 232 [.ref (86), .int (a0), .int (a1)] h) = some (some (.int (r)), h) := by
  rw [show ent 232 [.ref (86), .int (a0), .int (a1)] h = (0, [some (.ref (86)), some (.int (a0)), some (.int (a1))], [], h) from by  rfl]
  refine ex_weak (ls := [some (.ref (86)), some (.int (a0)), some (.int (a1))]) (le2_ok ⟨Or.inr rfl, Or.inr rfl, Or.inr rfl, trivial⟩) ?_
  unfold p232 at hp
  refine e_aload_n f232_0 rfl ?_
  refine e_iload_n f232_1 rfl ?_
  obtain ⟨r1, hr2, hp⟩ := bind_some hp
  try dsimp only at hp
  refine e_callV (st := []) (o := 86) (as := [.int (a0)]) f232_2 (by decide) rfl rfl (Nat.le_of_ble_eq_true rfl) (WF.t w 86 (by decide)) (Nat.le_of_ble_eq_true rfl) (p218_ok (d + 4) (h) w (a0) r1 hr2) ?_
  show ex _ 232 (5, [some (.ref (86)), some (.int (a0)), some (.int (a1))], [.int (r1)], h) = _
  by_cases hc3 : (r1) = (0 : Int32)
  · rw [if_pos hc3] at hp
    refine e_if_eq_t f232_5 hc3 ?_
    refine e_iconst (v := -1) f232_44 (by decide) ?_
    have hp := Option.some.inj hp
    subst hp
    exact e_ireturn f232_45 (Or.inl rfl)
  · rw [if_neg hc3] at hp
    refine e_if_eq_f f232_5 hc3 ?_
    refine e_iload_n f232_8 rfl ?_
    obtain ⟨r4, hr5, hp⟩ := bind_some hp
    try dsimp only at hp
    refine e_callS (st := []) (as := [.int (a1)]) f232_9 (by decide) rfl rfl (Nat.le_of_ble_eq_true rfl) (Nat.le_of_ble_eq_true rfl) (p188_ok (d + 4) (h) w (a1) r4 hr5) ?_
    show ex _ 232 (12, [some (.ref (86)), some (.int (a0)), some (.int (a1))], [.int (r4)], h) = _
    by_cases hc6 : (r4) = (0 : Int32)
    · rw [if_pos hc6] at hp
      refine e_if_eq_t f232_12 hc6 ?_
      refine e_iconst (v := -1) f232_44 (by decide) ?_
      have hp := Option.some.inj hp
      subst hp
      exact e_ireturn f232_45 (Or.inl rfl)
    · rw [if_neg hc6] at hp
      refine e_if_eq_f f232_12 hc6 ?_
      refine e_aload_n f232_15 rfl ?_
      refine e_iload_n f232_16 rfl ?_
      refine e_iload_n f232_17 rfl ?_
      obtain ⟨r7, hr8, hp⟩ := bind_some hp
      try dsimp only at hp
      refine e_callV (st := []) (o := 86) (as := [.int (a0), .int (a1)]) f232_18 (by decide) rfl rfl (Nat.le_of_ble_eq_true rfl) (WF.t w 86 (by decide)) (Nat.le_of_ble_eq_true rfl) (p230_ok (d + 4) F (h) w (a0) (a1) r7 hr8) ?_
      show ex _ 232 (21, [some (.ref (86)), some (.int (a0)), some (.int (a1))], [.int (r7)], h) = _
      by_cases hc9 : (0 : Int32) < (r7)
      · rw [if_pos hc9] at hp
        refine e_if_le_f f232_21 hc9 ?_
        refine e_aload_n f232_24 rfl ?_
        refine e_iload_n f232_25 rfl ?_
        refine e_iload_n f232_26 rfl ?_
        obtain ⟨r10, hr11, hp⟩ := bind_some hp
        try dsimp only at hp
        refine e_callV (st := []) (o := 86) (as := [.int (a0), .int (a1)]) f232_27 (by decide) rfl rfl (Nat.le_of_ble_eq_true rfl) (WF.t w 86 (by decide)) (Nat.le_of_ble_eq_true rfl) (p228_ok (d + 1) F (h) w (a0) (a1) r10 hr11) ?_
        show ex _ 232 (30, [some (.ref (86)), some (.int (a0)), some (.int (a1))], [.int (r10)], h) = _
        refine e_iconst (v := 1) f232_30 (by decide) ?_
        by_cases hc12 : (r10) = ((1) : Int32)
        · rw [if_pos hc12] at hp
          refine e_icmp_ne_f f232_31 hc12 ?_
          refine e_aload_n f232_34 rfl ?_
          refine e_iload_n f232_35 rfl ?_
          refine e_iload_n f232_36 rfl ?_
          refine e_iconst (v := 0) f232_37 (by decide) ?_
          obtain ⟨r13, hr14, hp⟩ := bind_some hp
          try dsimp only at hp
          refine e_callV (st := []) (o := 86) (as := [.int (a0), .int (a1), .int (0)]) f232_38 (by decide) rfl rfl (Nat.le_of_ble_eq_true rfl) (WF.t w 86 (by decide)) (Nat.le_of_ble_eq_true rfl) (p229_ok d F (h) w (a0) (a1) (0) r13 hr14) ?_
          show ex _ 232 (41, [some (.ref (86)), some (.int (a0)), some (.int (a1))], [.int (r13)], h) = _
          refine e_goto f232_41 ?_
          have hp := Option.some.inj hp
          subst hp
          exact e_ireturn f232_45 (Or.inl rfl)
        · rw [if_neg hc12] at hp
          refine e_icmp_ne_t f232_31 hc12 ?_
          refine e_iconst (v := -1) f232_44 (by decide) ?_
          have hp := Option.some.inj hp
          subst hp
          exact e_ireturn f232_45 (Or.inl rfl)
      · rw [if_neg hc9] at hp
        refine e_if_le_t f232_21 hc9 ?_
        refine e_iconst (v := -1) f232_44 (by decide) ?_
        have hp := Option.some.inj hp
        subst hp
        exact e_ireturn f232_45 (Or.inl rfl)
theorem f233_0 : fetch 233 0 = some (.iconst 0, 0, 0, 0) := rfl
theorem f233_1 : fetch 233 1 = some (.istore_n 3, 0, 0, 0) := rfl
theorem f233_2 : fetch 233 2 = some (.iconst 0, 0, 0, 0) := rfl
theorem f233_3 : fetch 233 3 = some (.istore 4, 0, 0, 0) := rfl
theorem f233_5 : fetch 233 5 = some (.iload 4, 0, 0, 0) := rfl
theorem f233_7 : fetch 233 7 = some (.aload_n 0, 0, 0, 0) := rfl
theorem f233_8 : fetch 233 8 = some (.getfield 314, 12, 20, 0) := rfl
theorem f233_11 : fetch 233 11 = some (.if_icmp .ge 111, 122, 0, 0) := rfl
theorem f233_14 : fetch 233 14 = some (.aload_n 0, 0, 0, 0) := rfl
theorem f233_15 : fetch 233 15 = some (.getfield 124, 12, 50, 2) := rfl
theorem f233_18 : fetch 233 18 = some (.iload 4, 0, 0, 0) := rfl
theorem f233_20 : fetch 233 20 = some (.baload, 0, 0, 0) := rfl
theorem f233_21 : fetch 233 21 = some (.istore 5, 0, 0, 0) := rfl
theorem f233_23 : fetch 233 23 = some (.iconst 0, 0, 0, 0) := rfl
theorem f233_24 : fetch 233 24 = some (.istore 6, 0, 0, 0) := rfl
theorem f233_26 : fetch 233 26 = some (.iload 6, 0, 0, 0) := rfl
theorem f233_28 : fetch 233 28 = some (.aload_n 0, 0, 0, 0) := rfl
theorem f233_29 : fetch 233 29 = some (.getfield 304, 12, 32, 0) := rfl
theorem f233_32 : fetch 233 32 = some (.if_icmp .ge 71, 103, 0, 0) := rfl
theorem f233_35 : fetch 233 35 = some (.iload 5, 0, 0, 0) := rfl
theorem f233_37 : fetch 233 37 = some (.ifCond .eq 66, 103, 0, 0) := rfl
theorem f233_40 : fetch 233 40 = some (.aload_n 0, 0, 0, 0) := rfl
theorem f233_41 : fetch 233 41 = some (.getfield 82, 12, 36, 2) := rfl
theorem f233_44 : fetch 233 44 = some (.iload 6, 0, 0, 0) := rfl
theorem f233_46 : fetch 233 46 = some (.iaload, 0, 0, 0) := rfl
theorem f233_47 : fetch 233 47 = some (.iload_n 1, 0, 0, 0) := rfl
theorem f233_48 : fetch 233 48 = some (.if_icmp .ne 42, 90, 0, 0) := rfl
theorem f233_51 : fetch 233 51 = some (.aload_n 0, 0, 0, 0) := rfl
theorem f233_52 : fetch 233 52 = some (.getfield 85, 12, 37, 2) := rfl
theorem f233_55 : fetch 233 55 = some (.iload 6, 0, 0, 0) := rfl
theorem f233_57 : fetch 233 57 = some (.iaload, 0, 0, 0) := rfl
theorem f233_58 : fetch 233 58 = some (.iload_n 2, 0, 0, 0) := rfl
theorem f233_59 : fetch 233 59 = some (.if_icmp .ne 31, 90, 0, 0) := rfl
theorem f233_62 : fetch 233 62 = some (.aload_n 0, 0, 0, 0) := rfl
theorem f233_63 : fetch 233 63 = some (.getfield 106, 12, 44, 2) := rfl
theorem f233_66 : fetch 233 66 = some (.iload 6, 0, 0, 0) := rfl
theorem f233_68 : fetch 233 68 = some (.iaload, 0, 0, 0) := rfl
theorem f233_69 : fetch 233 69 = some (.ldc_w 290, 0, 0, 100000) := rfl
theorem f233_72 : fetch 233 72 = some (.if_icmp .ne 18, 90, 0, 0) := rfl
theorem f233_75 : fetch 233 75 = some (.aload_n 0, 0, 0, 0) := rfl
theorem f233_76 : fetch 233 76 = some (.iload 6, 0, 0, 0) := rfl
theorem f233_78 : fetch 233 78 = some (.iload 4, 0, 0, 0) := rfl
theorem f233_80 : fetch 233 80 = some (.aload_n 0, 0, 0, 0) := rfl
theorem f233_81 : fetch 233 81 = some (.getfield 244, 12, 1, 0) := rfl
theorem f233_84 : fetch 233 84 = some (.invokevirtual 345, 225, 3, 0) := rfl
theorem f233_87 : fetch 233 87 = some (.ifCond .ne 7, 94, 0, 0) := rfl
theorem f233_90 : fetch 233 90 = some (.iconst 1, 0, 0, 0) := rfl
theorem f233_91 : fetch 233 91 = some (.goto 4, 95, 0, 0) := rfl
theorem f233_94 : fetch 233 94 = some (.iconst 0, 0, 0, 0) := rfl
theorem f233_95 : fetch 233 95 = some (.istore 5, 0, 0, 0) := rfl
theorem f233_97 : fetch 233 97 = some (.iinc 6 1, 0, 0, 0) := rfl
theorem f233_100 : fetch 233 100 = some (.goto (-74), 26, 0, 0) := rfl
theorem f233_103 : fetch 233 103 = some (.iload_n 3, 0, 0, 0) := rfl
theorem f233_104 : fetch 233 104 = some (.iload 5, 0, 0, 0) := rfl
theorem f233_106 : fetch 233 106 = some (.ifCond .eq 7, 113, 0, 0) := rfl
theorem f233_109 : fetch 233 109 = some (.iconst 1, 0, 0, 0) := rfl
theorem f233_110 : fetch 233 110 = some (.goto 4, 114, 0, 0) := rfl
theorem f233_113 : fetch 233 113 = some (.iconst 0, 0, 0, 0) := rfl
theorem f233_114 : fetch 233 114 = some (.iadd, 0, 0, 0) := rfl
theorem f233_115 : fetch 233 115 = some (.istore_n 3, 0, 0, 0) := rfl
theorem f233_116 : fetch 233 116 = some (.iinc 4 1, 0, 0, 0) := rfl
theorem f233_119 : fetch 233 119 = some (.goto (-114), 5, 0, 0) := rfl
theorem f233_122 : fetch 233 122 = some (.iload_n 3, 0, 0, 0) := rfl
theorem f233_123 : fetch 233 123 = some (.ireturn, 0, 0, 0) := rfl
set_option maxRecDepth 100000 in
set_option maxHeartbeats 4000000 in
theorem p233_j114_ok (d : Nat) (F : Nat) (a0 : Int32) (a1 : Int32) (K5 : Int32 → Int32 → Option (Int32)) (h : HS) (w : WF h) (hK5 : ∀ (u3 : Int32) (u4 : Int32) (r : Int32), K5 u3 u4 = some r → ex (d + 3) 233 (5, [some (.ref (86)), some (.int (a0)), some (.int (a1)), some (.int (u3)), some (.int (u4)), none, none], [], h) = some (some (.int (r)), h)) (v4 : Int32) (s0 : Int32) (s1 : Int32) (r : Int32) (hp : p233_j114 F a0 a1 K5 h v4 s0 s1 = some r) : ex (d + 3) 233 (114, [some (.ref (86)), some (.int (a0)), some (.int (a1)), none, some (.int (v4)), none, none], [.int (s0), .int (s1)], h) = some (some (.int (r)), h) := by
  unfold p233_j114 at hp
  refine e_iadd f233_114 ?_
  refine e_istore_n (ls2 := [some (.ref (86)), some (.int (a0)), some (.int (a1)), some (.int ((s1) + (s0))), some (.int (v4)), none, none]) f233_115 (Nat.le_of_ble_eq_true rfl) rfl ?_
  refine e_iinc (ls2 := [some (.ref (86)), some (.int (a0)), some (.int (a1)), some (.int ((s1) + (s0))), some (.int ((v4) + 1)), none, none]) f233_116 (by decide) rfl rfl ?_
  refine e_goto f233_119 ?_
  refine ex_weak (ls := [some (.ref (86)), some (.int (a0)), some (.int (a1)), some (.int ((s1) + (s0))), some (.int ((v4) + 1)), none, none]) (le2_ok ⟨Or.inr rfl, Or.inr rfl, Or.inr rfl, Or.inr rfl, Or.inr rfl, Or.inl rfl, Or.inl rfl, trivial⟩) ?_
  exact hK5 ((s1) + (s0)) ((v4) + 1) _ hp
set_option maxRecDepth 100000 in
set_option maxHeartbeats 4000000 in
theorem p233_j95_ok (d : Nat) (F : Nat) (a0 : Int32) (a1 : Int32) (K5 : Int32 → Int32 → Option (Int32)) (K26 : Int32 → Int32 → Int32 → Int32 → Option (Int32)) (h : HS) (w : WF h) (hK5 : ∀ (u3 : Int32) (u4 : Int32) (r : Int32), K5 u3 u4 = some r → ex (d + 3) 233 (5, [some (.ref (86)), some (.int (a0)), some (.int (a1)), some (.int (u3)), some (.int (u4)), none, none], [], h) = some (some (.int (r)), h)) (hK26 : ∀ (u3 : Int32) (u4 : Int32) (u5 : Int32) (u6 : Int32) (r : Int32), K26 u3 u4 u5 u6 = some r → ex (d + 3) 233 (26, [some (.ref (86)), some (.int (a0)), some (.int (a1)), some (.int (u3)), some (.int (u4)), some (.int (u5)), some (.int (u6))], [], h) = some (some (.int (r)), h)) (v3 : Int32) (v4 : Int32) (v6 : Int32) (s0 : Int32) (r : Int32) (hp : p233_j95 F a0 a1 K5 K26 h v3 v4 v6 s0 = some r) : ex (d + 3) 233 (95, [some (.ref (86)), some (.int (a0)), some (.int (a1)), some (.int (v3)), some (.int (v4)), none, some (.int (v6))], [.int (s0)], h) = some (some (.int (r)), h) := by
  unfold p233_j95 at hp
  refine e_istore (ls2 := [some (.ref (86)), some (.int (a0)), some (.int (a1)), some (.int (v3)), some (.int (v4)), some (.int (s0)), some (.int (v6))]) f233_95 (Nat.le_of_ble_eq_true rfl) rfl ?_
  refine e_iinc (ls2 := [some (.ref (86)), some (.int (a0)), some (.int (a1)), some (.int (v3)), some (.int (v4)), some (.int (s0)), some (.int ((v6) + 1))]) f233_97 (by decide) rfl rfl ?_
  refine e_goto f233_100 ?_
  refine ex_weak (ls := [some (.ref (86)), some (.int (a0)), some (.int (a1)), some (.int (v3)), some (.int (v4)), some (.int (s0)), some (.int ((v6) + 1))]) (le2_ok ⟨Or.inr rfl, Or.inr rfl, Or.inr rfl, Or.inr rfl, Or.inr rfl, Or.inr rfl, Or.inr rfl, trivial⟩) ?_
  exact hK26 (v3) (v4) (s0) ((v6) + 1) _ hp
set_option maxRecDepth 100000 in
set_option maxHeartbeats 4000000 in
theorem p233_j103_ok (d : Nat) (F : Nat) (a0 : Int32) (a1 : Int32) (K5 : Int32 → Int32 → Option (Int32)) (h : HS) (w : WF h) (hK5 : ∀ (u3 : Int32) (u4 : Int32) (r : Int32), K5 u3 u4 = some r → ex (d + 3) 233 (5, [some (.ref (86)), some (.int (a0)), some (.int (a1)), some (.int (u3)), some (.int (u4)), none, none], [], h) = some (some (.int (r)), h)) (v3 : Int32) (v4 : Int32) (v5 : Int32) (r : Int32) (hp : p233_j103 F a0 a1 K5 h v3 v4 v5 = some r) : ex (d + 3) 233 (103, [some (.ref (86)), some (.int (a0)), some (.int (a1)), some (.int (v3)), some (.int (v4)), some (.int (v5)), none], [], h) = some (some (.int (r)), h) := by
  unfold p233_j103 at hp
  refine e_iload_n f233_103 rfl ?_
  refine e_iload f233_104 rfl ?_
  by_cases hc14 : (v5) = (0 : Int32)
  · rw [if_pos hc14] at hp
    refine e_if_eq_t f233_106 hc14 ?_
    refine e_iconst (v := 0) f233_113 (by decide) ?_
    refine ex_weak (ls := [some (.ref (86)), some (.int (a0)), some (.int (a1)), none, some (.int (v4)), none, none]) (le2_ok ⟨Or.inr rfl, Or.inr rfl, Or.inr rfl, Or.inl rfl, Or.inr rfl, Or.inl rfl, Or.inl rfl, trivial⟩) ?_
    exact p233_j114_ok d F a0 a1 (K5) (h) (w) (hK5) (v4) (0) (v3) _ hp
  · rw [if_neg hc14] at hp
    refine e_if_eq_f f233_106 hc14 ?_
    refine e_iconst (v := 1) f233_109 (by decide) ?_
    refine e_goto f233_110 ?_
    refine ex_weak (ls := [some (.ref (86)), some (.int (a0)), some (.int (a1)), none, some (.int (v4)), none, none]) (le2_ok ⟨Or.inr rfl, Or.inr rfl, Or.inr rfl, Or.inl rfl, Or.inr rfl, Or.inl rfl, Or.inl rfl, trivial⟩) ?_
    exact p233_j114_ok d F a0 a1 (K5) (h) (w) (hK5) (v4) (1) (v3) _ hp
set_option maxRecDepth 100000 in
set_option maxHeartbeats 4000000 in
theorem p233_j90_ok (d : Nat) (F : Nat) (a0 : Int32) (a1 : Int32) (K5 : Int32 → Int32 → Option (Int32)) (K26 : Int32 → Int32 → Int32 → Int32 → Option (Int32)) (h : HS) (w : WF h) (hK5 : ∀ (u3 : Int32) (u4 : Int32) (r : Int32), K5 u3 u4 = some r → ex (d + 3) 233 (5, [some (.ref (86)), some (.int (a0)), some (.int (a1)), some (.int (u3)), some (.int (u4)), none, none], [], h) = some (some (.int (r)), h)) (hK26 : ∀ (u3 : Int32) (u4 : Int32) (u5 : Int32) (u6 : Int32) (r : Int32), K26 u3 u4 u5 u6 = some r → ex (d + 3) 233 (26, [some (.ref (86)), some (.int (a0)), some (.int (a1)), some (.int (u3)), some (.int (u4)), some (.int (u5)), some (.int (u6))], [], h) = some (some (.int (r)), h)) (v3 : Int32) (v4 : Int32) (v6 : Int32) (r : Int32) (hp : p233_j90 F a0 a1 K5 K26 h v3 v4 v6 = some r) : ex (d + 3) 233 (90, [some (.ref (86)), some (.int (a0)), some (.int (a1)), some (.int (v3)), some (.int (v4)), none, some (.int (v6))], [], h) = some (some (.int (r)), h) := by
  unfold p233_j90 at hp
  refine e_iconst (v := 1) f233_90 (by decide) ?_
  refine e_goto f233_91 ?_
  refine ex_weak (ls := [some (.ref (86)), some (.int (a0)), some (.int (a1)), some (.int (v3)), some (.int (v4)), none, some (.int (v6))]) (le2_ok ⟨Or.inr rfl, Or.inr rfl, Or.inr rfl, Or.inr rfl, Or.inr rfl, Or.inl rfl, Or.inr rfl, trivial⟩) ?_
  exact p233_j95_ok d F a0 a1 (K5) (K26) (h) (w) (hK5) (hK26) (v3) (v4) (v6) (1) _ hp
set_option maxRecDepth 100000 in
set_option maxHeartbeats 4000000 in
theorem p233_L26_ok (d : Nat) (F : Nat) (a0 : Int32) (a1 : Int32) (K5 : Int32 → Int32 → Option (Int32)) (h : HS) (w : WF h) (hK5 : ∀ (u3 : Int32) (u4 : Int32) (r : Int32), K5 u3 u4 = some r → ex (d + 3) 233 (5, [some (.ref (86)), some (.int (a0)), some (.int (a1)), some (.int (u3)), some (.int (u4)), none, none], [], h) = some (some (.int (r)), h)) : ∀ (n : Nat) (v3 : Int32) (v4 : Int32) (v5 : Int32) (v6 : Int32) (r : Int32), p233_L26 F a0 a1 K5 n h v3 v4 v5 v6 = some r → ex (d + 3) 233 (26, [some (.ref (86)), some (.int (a0)), some (.int (a1)), some (.int (v3)), some (.int (v4)), some (.int (v5)), some (.int (v6))], [], h) = some (some (.int (r)), h) := by
  intro n
  induction n with
  | zero => intro v3 v4 v5 v6 r hp; cases hp
  | succ n ih =>
    intro v3 v4 v5 v6 r hp
    unfold p233_L26 at hp
    refine e_iload f233_26 rfl ?_
    refine e_aload_n f233_28 rfl ?_
    refine e_getI f233_29 (WF.t w 86 (by decide)) (by decide) ?_
    by_cases hc3 : (v6) < ((hI (h) (86) 32) : Int32)
    · rw [if_pos hc3] at hp
      refine e_icmp_ge_f f233_32 hc3 ?_
      refine e_iload f233_35 rfl ?_
      by_cases hc4 : (v5) = (0 : Int32)
      · rw [if_pos hc4] at hp
        refine e_if_eq_t f233_37 hc4 ?_
        refine ex_weak (ls := [some (.ref (86)), some (.int (a0)), some (.int (a1)), some (.int (v3)), some (.int (v4)), some (.int (v5)), none]) (le2_ok ⟨Or.inr rfl, Or.inr rfl, Or.inr rfl, Or.inr rfl, Or.inr rfl, Or.inr rfl, Or.inl rfl, trivial⟩) ?_
        exact p233_j103_ok d F a0 a1 (K5) (h) (w) (hK5) (v3) (v4) (v5) _ hp
      · rw [if_neg hc4] at hp
        refine e_if_eq_f f233_37 hc4 ?_
        refine e_aload_n f233_40 rfl ?_
        refine e_getR f233_41 (WF.t w 86 (by decide)) rfl (WF.r (q := 111) w 86 36 (by decide)) ?_
        refine e_iload f233_44 rfl ?_
        by_cases hg5 : (v6) < (0 : Int32) ∨ 200 ≤ (v6).toNatClampNeg
        · rw [if_pos hg5] at hp; cases hp
        rw [if_neg hg5] at hp
        refine e_iaload f233_46 (Or.inl (WF.t w 111 (by decide))) (WF.n w 111 (by decide)) hg5 ?_
        refine e_iload_n f233_47 rfl ?_
        by_cases hc6 : (hI (h) (111) (v6).toNatClampNeg) = ((a0) : Int32)
        · rw [if_pos hc6] at hp
          refine e_icmp_ne_f f233_48 hc6 ?_
          refine e_aload_n f233_51 rfl ?_
          refine e_getR f233_52 (WF.t w 86 (by decide)) rfl (WF.r (q := 112) w 86 37 (by decide)) ?_
          refine e_iload f233_55 rfl ?_
          by_cases hg7 : (v6) < (0 : Int32) ∨ 200 ≤ (v6).toNatClampNeg
          · rw [if_pos hg7] at hp; cases hp
          rw [if_neg hg7] at hp
          refine e_iaload f233_57 (Or.inl (WF.t w 112 (by decide))) (WF.n w 112 (by decide)) hg7 ?_
          refine e_iload_n f233_58 rfl ?_
          by_cases hc8 : (hI (h) (112) (v6).toNatClampNeg) = ((a1) : Int32)
          · rw [if_pos hc8] at hp
            refine e_icmp_ne_f f233_59 hc8 ?_
            refine e_aload_n f233_62 rfl ?_
            refine e_getR f233_63 (WF.t w 86 (by decide)) rfl (WF.r (q := 119) w 86 44 (by decide)) ?_
            refine e_iload f233_66 rfl ?_
            by_cases hg9 : (v6) < (0 : Int32) ∨ 200 ≤ (v6).toNatClampNeg
            · rw [if_pos hg9] at hp; cases hp
            rw [if_neg hg9] at hp
            refine e_iaload f233_68 (Or.inl (WF.t w 119 (by decide))) (WF.n w 119 (by decide)) hg9 ?_
            refine e_ldcw (v := 100000) f233_69 (by decide) (by decide) ?_
            by_cases hc10 : (hI (h) (119) (v6).toNatClampNeg) = ((100000) : Int32)
            · rw [if_pos hc10] at hp
              refine e_icmp_ne_f f233_72 hc10 ?_
              refine e_aload_n f233_75 rfl ?_
              refine e_iload f233_76 rfl ?_
              refine e_iload f233_78 rfl ?_
              refine e_aload_n f233_80 rfl ?_
              refine e_getI f233_81 (WF.t w 86 (by decide)) (by decide) ?_
              obtain ⟨r11, hr12, hp⟩ := bind_some hp
              try dsimp only at hp
              refine e_callV (st := []) (o := 86) (as := [.int (v6), .int (v4), .int (hI (h) (86) 1)]) f233_84 (by decide) rfl rfl (Nat.le_of_ble_eq_true rfl) (WF.t w 86 (by decide)) (Nat.le_of_ble_eq_true rfl) (p225_ok d F (h) w (v6) (v4) (hI (h) (86) 1) r11 hr12) ?_
              show ex _ 233 (87, [some (.ref (86)), some (.int (a0)), some (.int (a1)), some (.int (v3)), some (.int (v4)), some (.int (v5)), some (.int (v6))], [.int (r11)], h) = _
              by_cases hc13 : (r11) = (0 : Int32)
              · rw [if_pos hc13] at hp
                refine e_if_ne_f f233_87 hc13 ?_
                refine ex_weak (ls := [some (.ref (86)), some (.int (a0)), some (.int (a1)), some (.int (v3)), some (.int (v4)), none, some (.int (v6))]) (le2_ok ⟨Or.inr rfl, Or.inr rfl, Or.inr rfl, Or.inr rfl, Or.inr rfl, Or.inl rfl, Or.inr rfl, trivial⟩) ?_
                exact p233_j90_ok d F a0 a1 (K5) ((p233_L26 F a0 a1 K5 n h)) (h) (w) (hK5) (ih) (v3) (v4) (v6) _ hp
              · rw [if_neg hc13] at hp
                refine e_if_ne_t f233_87 hc13 ?_
                refine e_iconst (v := 0) f233_94 (by decide) ?_
                refine ex_weak (ls := [some (.ref (86)), some (.int (a0)), some (.int (a1)), some (.int (v3)), some (.int (v4)), none, some (.int (v6))]) (le2_ok ⟨Or.inr rfl, Or.inr rfl, Or.inr rfl, Or.inr rfl, Or.inr rfl, Or.inl rfl, Or.inr rfl, trivial⟩) ?_
                exact p233_j95_ok d F a0 a1 (K5) ((p233_L26 F a0 a1 K5 n h)) (h) (w) (hK5) (ih) (v3) (v4) (v6) (0) _ hp
            · rw [if_neg hc10] at hp
              refine e_icmp_ne_t f233_72 hc10 ?_
              refine ex_weak (ls := [some (.ref (86)), some (.int (a0)), some (.int (a1)), some (.int (v3)), some (.int (v4)), none, some (.int (v6))]) (le2_ok ⟨Or.inr rfl, Or.inr rfl, Or.inr rfl, Or.inr rfl, Or.inr rfl, Or.inl rfl, Or.inr rfl, trivial⟩) ?_
              exact p233_j90_ok d F a0 a1 (K5) ((p233_L26 F a0 a1 K5 n h)) (h) (w) (hK5) (ih) (v3) (v4) (v6) _ hp
          · rw [if_neg hc8] at hp
            refine e_icmp_ne_t f233_59 hc8 ?_
            refine ex_weak (ls := [some (.ref (86)), some (.int (a0)), some (.int (a1)), some (.int (v3)), some (.int (v4)), none, some (.int (v6))]) (le2_ok ⟨Or.inr rfl, Or.inr rfl, Or.inr rfl, Or.inr rfl, Or.inr rfl, Or.inl rfl, Or.inr rfl, trivial⟩) ?_
            exact p233_j90_ok d F a0 a1 (K5) ((p233_L26 F a0 a1 K5 n h)) (h) (w) (hK5) (ih) (v3) (v4) (v6) _ hp
        · rw [if_neg hc6] at hp
          refine e_icmp_ne_t f233_48 hc6 ?_
          refine ex_weak (ls := [some (.ref (86)), some (.int (a0)), some (.int (a1)), some (.int (v3)), some (.int (v4)), none, some (.int (v6))]) (le2_ok ⟨Or.inr rfl, Or.inr rfl, Or.inr rfl, Or.inr rfl, Or.inr rfl, Or.inl rfl, Or.inr rfl, trivial⟩) ?_
          exact p233_j90_ok d F a0 a1 (K5) ((p233_L26 F a0 a1 K5 n h)) (h) (w) (hK5) (ih) (v3) (v4) (v6) _ hp
    · rw [if_neg hc3] at hp
      refine e_icmp_ge_t f233_32 hc3 ?_
      refine ex_weak (ls := [some (.ref (86)), some (.int (a0)), some (.int (a1)), some (.int (v3)), some (.int (v4)), some (.int (v5)), none]) (le2_ok ⟨Or.inr rfl, Or.inr rfl, Or.inr rfl, Or.inr rfl, Or.inr rfl, Or.inr rfl, Or.inl rfl, trivial⟩) ?_
      exact p233_j103_ok d F a0 a1 (K5) (h) (w) (hK5) (v3) (v4) (v5) _ hp
set_option maxRecDepth 100000 in
set_option maxHeartbeats 4000000 in
theorem p233_L5_ok (d : Nat) (F : Nat) (a0 : Int32) (a1 : Int32) (h : HS) (w : WF h)  : ∀ (n : Nat) (v3 : Int32) (v4 : Int32) (r : Int32), p233_L5 F a0 a1 n h v3 v4 = some r → ex (d + 3) 233 (5, [some (.ref (86)), some (.int (a0)), some (.int (a1)), some (.int (v3)), some (.int (v4)), none, none], [], h) = some (some (.int (r)), h) := by
  intro n
  induction n with
  | zero => intro v3 v4 r hp; cases hp
  | succ n ih =>
    intro v3 v4 r hp
    unfold p233_L5 at hp
    refine e_iload f233_5 rfl ?_
    refine e_aload_n f233_7 rfl ?_
    refine e_getI f233_8 (WF.t w 86 (by decide)) (by decide) ?_
    by_cases hc1 : (v4) < ((hI (h) (86) 20) : Int32)
    · rw [if_pos hc1] at hp
      refine e_icmp_ge_f f233_11 hc1 ?_
      refine e_aload_n f233_14 rfl ?_
      refine e_getR f233_15 (WF.t w 86 (by decide)) rfl (WF.r (q := 125) w 86 50 (by decide)) ?_
      refine e_iload f233_18 rfl ?_
      by_cases hg2 : (v4) < (0 : Int32) ∨ 60 ≤ (v4).toNatClampNeg
      · rw [if_pos hg2] at hp; cases hp
      rw [if_neg hg2] at hp
      refine e_baload f233_20 (Or.inr (WF.t w 125 (by decide))) (WF.n w 125 (by decide)) hg2 ?_
      refine e_istore (ls2 := [some (.ref (86)), some (.int (a0)), some (.int (a1)), some (.int (v3)), some (.int (v4)), some (.int (hI (h) (125) (v4).toNatClampNeg)), none]) f233_21 (Nat.le_of_ble_eq_true rfl) rfl ?_
      refine e_iconst (v := 0) f233_23 (by decide) ?_
      refine e_istore (ls2 := [some (.ref (86)), some (.int (a0)), some (.int (a1)), some (.int (v3)), some (.int (v4)), some (.int (hI (h) (125) (v4).toNatClampNeg)), some (.int (0))]) f233_24 (Nat.le_of_ble_eq_true rfl) rfl ?_
      refine ex_weak (ls := [some (.ref (86)), some (.int (a0)), some (.int (a1)), some (.int (v3)), some (.int (v4)), some (.int (hI (h) (125) (v4).toNatClampNeg)), some (.int (0))]) (le2_ok ⟨Or.inr rfl, Or.inr rfl, Or.inr rfl, Or.inr rfl, Or.inr rfl, Or.inr rfl, Or.inr rfl, trivial⟩) ?_
      exact p233_L26_ok d F a0 a1 ((p233_L5 F a0 a1 n h)) (h) (w) (ih) F (v3) (v4) (hI (h) (125) (v4).toNatClampNeg) (0) _ hp
    · rw [if_neg hc1] at hp
      refine e_icmp_ge_t f233_11 hc1 ?_
      refine e_iload_n f233_122 rfl ?_
      have hp := Option.some.inj hp
      subst hp
      exact e_ireturn f233_123 (Or.inl rfl)
set_option maxRecDepth 100000 in
set_option maxHeartbeats 4000000 in
theorem p233_ok (d : Nat) (F : Nat) (h : HS) (w : WF h) (a0 : Int32) (a1 : Int32) (r : Int32) (hp : p233 F h a0 a1 = some r) : ex (d + 3) 233 (ent 233 [.ref (86), .int (a0), .int (a1)] h) = some (some (.int (r)), h) := by
  rw [show ent 233 [.ref (86), .int (a0), .int (a1)] h = (0, [some (.ref (86)), some (.int (a0)), some (.int (a1)), none, none, none, none], [], h) from by  rfl]
  refine ex_weak (ls := [some (.ref (86)), some (.int (a0)), some (.int (a1)), none, none, none, none]) (le2_ok ⟨Or.inr rfl, Or.inr rfl, Or.inr rfl, Or.inr rfl, Or.inr rfl, Or.inr rfl, Or.inr rfl, trivial⟩) ?_
  unfold p233 at hp
  refine e_iconst (v := 0) f233_0 (by decide) ?_
  refine e_istore_n (ls2 := [some (.ref (86)), some (.int (a0)), some (.int (a1)), some (.int (0)), none, none, none]) f233_1 (Nat.le_of_ble_eq_true rfl) rfl ?_
  refine e_iconst (v := 0) f233_2 (by decide) ?_
  refine e_istore (ls2 := [some (.ref (86)), some (.int (a0)), some (.int (a1)), some (.int (0)), some (.int (0)), none, none]) f233_3 (Nat.le_of_ble_eq_true rfl) rfl ?_
  refine ex_weak (ls := [some (.ref (86)), some (.int (a0)), some (.int (a1)), some (.int (0)), some (.int (0)), none, none]) (le2_ok ⟨Or.inr rfl, Or.inr rfl, Or.inr rfl, Or.inr rfl, Or.inr rfl, Or.inl rfl, Or.inl rfl, trivial⟩) ?_
  exact p233_L5_ok d F a0 a1 (h) (w) F (0) (0) _ hp
theorem f234_0 : fetch 234 0 = some (.aload_n 0, 0, 0, 0) := rfl
theorem f234_1 : fetch 234 1 = some (.iload_n 1, 0, 0, 0) := rfl
theorem f234_2 : fetch 234 2 = some (.invokevirtual 329, 218, 1, 0) := rfl
theorem f234_5 : fetch 234 5 = some (.ifCond .ne 5, 10, 0, 0) := rfl
theorem f234_8 : fetch 234 8 = some (.iconst (-1), 0, 0, 0) := rfl
theorem f234_9 : fetch 234 9 = some (.ireturn, 0, 0, 0) := rfl
theorem f234_10 : fetch 234 10 = some (.iconst 0, 0, 0, 0) := rfl
theorem f234_11 : fetch 234 11 = some (.istore_n 2, 0, 0, 0) := rfl
theorem f234_12 : fetch 234 12 = some (.iconst 0, 0, 0, 0) := rfl
theorem f234_13 : fetch 234 13 = some (.istore_n 3, 0, 0, 0) := rfl
theorem f234_14 : fetch 234 14 = some (.iload_n 3, 0, 0, 0) := rfl
theorem f234_15 : fetch 234 15 = some (.aload_n 0, 0, 0, 0) := rfl
theorem f234_16 : fetch 234 16 = some (.getfield 314, 12, 20, 0) := rfl
theorem f234_19 : fetch 234 19 = some (.if_icmp .ge 51, 70, 0, 0) := rfl
theorem f234_22 : fetch 234 22 = some (.aload_n 0, 0, 0, 0) := rfl
theorem f234_23 : fetch 234 23 = some (.getfield 124, 12, 50, 2) := rfl
theorem f234_26 : fetch 234 26 = some (.iload_n 3, 0, 0, 0) := rfl
theorem f234_27 : fetch 234 27 = some (.aload_n 0, 0, 0, 0) := rfl
theorem f234_28 : fetch 234 28 = some (.iload_n 1, 0, 0, 0) := rfl
theorem f234_29 : fetch 234 29 = some (.iload_n 3, 0, 0, 0) := rfl
theorem f234_30 : fetch 234 30 = some (.aload_n 0, 0, 0, 0) := rfl
theorem f234_31 : fetch 234 31 = some (.getfield 244, 12, 1, 0) := rfl
theorem f234_34 : fetch 234 34 = some (.invokevirtual 348, 226, 3, 0) := rfl
theorem f234_37 : fetch 234 37 = some (.iconst (-1), 0, 0, 0) := rfl
theorem f234_38 : fetch 234 38 = some (.if_icmp .ne 7, 45, 0, 0) := rfl
theorem f234_41 : fetch 234 41 = some (.iconst 1, 0, 0, 0) := rfl
theorem f234_42 : fetch 234 42 = some (.goto 4, 46, 0, 0) := rfl
theorem f234_45 : fetch 234 45 = some (.iconst 0, 0, 0, 0) := rfl
theorem f234_46 : fetch 234 46 = some (.bastore, 0, 0, 0) := rfl
theorem f234_47 : fetch 234 47 = some (.iload_n 2, 0, 0, 0) := rfl
theorem f234_48 : fetch 234 48 = some (.aload_n 0, 0, 0, 0) := rfl
theorem f234_49 : fetch 234 49 = some (.getfield 124, 12, 50, 2) := rfl
theorem f234_52 : fetch 234 52 = some (.iload_n 3, 0, 0, 0) := rfl
theorem f234_53 : fetch 234 53 = some (.baload, 0, 0, 0) := rfl
theorem f234_54 : fetch 234 54 = some (.ifCond .eq 7, 61, 0, 0) := rfl
theorem f234_57 : fetch 234 57 = some (.iconst 1, 0, 0, 0) := rfl
theorem f234_58 : fetch 234 58 = some (.goto 4, 62, 0, 0) := rfl
theorem f234_61 : fetch 234 61 = some (.iconst 0, 0, 0, 0) := rfl
theorem f234_62 : fetch 234 62 = some (.iadd, 0, 0, 0) := rfl
theorem f234_63 : fetch 234 63 = some (.istore_n 2, 0, 0, 0) := rfl
theorem f234_64 : fetch 234 64 = some (.iinc 3 1, 0, 0, 0) := rfl
theorem f234_67 : fetch 234 67 = some (.goto (-53), 14, 0, 0) := rfl
theorem f234_70 : fetch 234 70 = some (.iconst (-1), 0, 0, 0) := rfl
theorem f234_71 : fetch 234 71 = some (.istore_n 3, 0, 0, 0) := rfl
theorem f234_72 : fetch 234 72 = some (.iconst 0, 0, 0, 0) := rfl
theorem f234_73 : fetch 234 73 = some (.istore 4, 0, 0, 0) := rfl
theorem f234_75 : fetch 234 75 = some (.iconst 0, 0, 0, 0) := rfl
theorem f234_76 : fetch 234 76 = some (.istore 5, 0, 0, 0) := rfl
theorem f234_78 : fetch 234 78 = some (.iload 5, 0, 0, 0) := rfl
theorem f234_80 : fetch 234 80 = some (.aload_n 0, 0, 0, 0) := rfl
theorem f234_81 : fetch 234 81 = some (.getfield 287, 12, 14, 0) := rfl
theorem f234_84 : fetch 234 84 = some (.if_icmp .ge 94, 178, 0, 0) := rfl
theorem f234_87 : fetch 234 87 = some (.aload_n 0, 0, 0, 0) := rfl
theorem f234_88 : fetch 234 88 = some (.getfield 37, 12, 16, 2) := rfl
theorem f234_91 : fetch 234 91 = some (.iload 5, 0, 0, 0) := rfl
theorem f234_93 : fetch 234 93 = some (.iaload, 0, 0, 0) := rfl
theorem f234_94 : fetch 234 94 = some (.ldc_w 290, 0, 0, 100000) := rfl
theorem f234_97 : fetch 234 97 = some (.if_icmp .ne 75, 172, 0, 0) := rfl
theorem f234_100 : fetch 234 100 = some (.aload_n 0, 0, 0, 0) := rfl
theorem f234_101 : fetch 234 101 = some (.getfield 40, 12, 17, 2) := rfl
theorem f234_104 : fetch 234 104 = some (.iload 5, 0, 0, 0) := rfl
theorem f234_106 : fetch 234 106 = some (.iaload, 0, 0, 0) := rfl
theorem f234_107 : fetch 234 107 = some (.ldc_w 290, 0, 0, 100000) := rfl
theorem f234_110 : fetch 234 110 = some (.if_icmp .ne 62, 172, 0, 0) := rfl
theorem f234_113 : fetch 234 113 = some (.aload_n 0, 0, 0, 0) := rfl
theorem f234_114 : fetch 234 114 = some (.iload 5, 0, 0, 0) := rfl
theorem f234_116 : fetch 234 116 = some (.iload_n 1, 0, 0, 0) := rfl
theorem f234_117 : fetch 234 117 = some (.invokevirtual 364, 233, 2, 0) := rfl
theorem f234_120 : fetch 234 120 = some (.istore 6, 0, 0, 0) := rfl
theorem f234_122 : fetch 234 122 = some (.iconst 2, 0, 0, 0) := rfl
theorem f234_123 : fetch 234 123 = some (.iload 6, 0, 0, 0) := rfl
theorem f234_125 : fetch 234 125 = some (.imul, 0, 0, 0) := rfl
theorem f234_126 : fetch 234 126 = some (.iload_n 2, 0, 0, 0) := rfl
theorem f234_127 : fetch 234 127 = some (.if_icmp .le 12, 139, 0, 0) := rfl
theorem f234_130 : fetch 234 130 = some (.iconst 2, 0, 0, 0) := rfl
theorem f234_131 : fetch 234 131 = some (.iload 6, 0, 0, 0) := rfl
theorem f234_133 : fetch 234 133 = some (.imul, 0, 0, 0) := rfl
theorem f234_134 : fetch 234 134 = some (.iload_n 2, 0, 0, 0) := rfl
theorem f234_135 : fetch 234 135 = some (.isub, 0, 0, 0) := rfl
theorem f234_136 : fetch 234 136 = some (.goto 9, 145, 0, 0) := rfl
theorem f234_139 : fetch 234 139 = some (.iload_n 2, 0, 0, 0) := rfl
theorem f234_140 : fetch 234 140 = some (.iconst 2, 0, 0, 0) := rfl
theorem f234_141 : fetch 234 141 = some (.iload 6, 0, 0, 0) := rfl
theorem f234_143 : fetch 234 143 = some (.imul, 0, 0, 0) := rfl
theorem f234_144 : fetch 234 144 = some (.isub, 0, 0, 0) := rfl
theorem f234_145 : fetch 234 145 = some (.istore 7, 0, 0, 0) := rfl
theorem f234_147 : fetch 234 147 = some (.iload 6, 0, 0, 0) := rfl
theorem f234_149 : fetch 234 149 = some (.iload_n 2, 0, 0, 0) := rfl
theorem f234_150 : fetch 234 150 = some (.if_icmp .ge 22, 172, 0, 0) := rfl
theorem f234_153 : fetch 234 153 = some (.iload_n 3, 0, 0, 0) := rfl
theorem f234_154 : fetch 234 154 = some (.iconst (-1), 0, 0, 0) := rfl
theorem f234_155 : fetch 234 155 = some (.if_icmp .eq 10, 165, 0, 0) := rfl
theorem f234_158 : fetch 234 158 = some (.iload 7, 0, 0, 0) := rfl
theorem f234_160 : fetch 234 160 = some (.iload 4, 0, 0, 0) := rfl
theorem f234_162 : fetch 234 162 = some (.if_icmp .ge 10, 172, 0, 0) := rfl
theorem f234_165 : fetch 234 165 = some (.iload 5, 0, 0, 0) := rfl
theorem f234_167 : fetch 234 167 = some (.istore_n 3, 0, 0, 0) := rfl
theorem f234_168 : fetch 234 168 = some (.iload 7, 0, 0, 0) := rfl
theorem f234_170 : fetch 234 170 = some (.istore 4, 0, 0, 0) := rfl
theorem f234_172 : fetch 234 172 = some (.iinc 5 1, 0, 0, 0) := rfl
theorem f234_175 : fetch 234 175 = some (.goto (-97), 78, 0, 0) := rfl
theorem f234_178 : fetch 234 178 = some (.iload_n 3, 0, 0, 0) := rfl
theorem f234_179 : fetch 234 179 = some (.ireturn, 0, 0, 0) := rfl
set_option maxRecDepth 100000 in
set_option maxHeartbeats 4000000 in
theorem p234_j172_ok (d : Nat) (F : Nat) (a0 : Int32) (K78 : HS → Int32 → Int32 → Int32 → Int32 → Option (Int32 × HS)) (hK78 : ∀ (h : HS) (w : WF h) (u2 : Int32) (u3 : Int32) (u4 : Int32) (u5 : Int32) (r : Int32 × HS), K78 h u2 u3 u4 u5 = some r → ex (d + 4) 234 (78, [some (.ref (86)), some (.int (a0)), some (.int (u2)), some (.int (u3)), some (.int (u4)), some (.int (u5)), none, none], [], h) = some (some (.int (r.1)), r.2)) (h : HS) (w : WF h) (v2 : Int32) (v3 : Int32) (v4 : Int32) (v5 : Int32) (r : Int32 × HS) (hp : p234_j172 F a0 K78 h v2 v3 v4 v5 = some r) : ex (d + 4) 234 (172, [some (.ref (86)), some (.int (a0)), some (.int (v2)), some (.int (v3)), some (.int (v4)), some (.int (v5)), none, none], [], h) = some (some (.int (r.1)), r.2) := by
  unfold p234_j172 at hp
  refine e_iinc (ls2 := [some (.ref (86)), some (.int (a0)), some (.int (v2)), some (.int (v3)), some (.int (v4)), some (.int ((v5) + 1)), none, none]) f234_172 (by decide) rfl rfl ?_
  refine e_goto f234_175 ?_
  refine ex_weak (ls := [some (.ref (86)), some (.int (a0)), some (.int (v2)), some (.int (v3)), some (.int (v4)), some (.int ((v5) + 1)), none, none]) (le2_ok ⟨Or.inr rfl, Or.inr rfl, Or.inr rfl, Or.inr rfl, Or.inr rfl, Or.inr rfl, Or.inl rfl, Or.inl rfl, trivial⟩) ?_
  exact hK78 (h) (w) (v2) (v3) (v4) ((v5) + 1) _ hp
set_option maxRecDepth 100000 in
set_option maxHeartbeats 4000000 in
theorem p234_j172_w (F : Nat) (a0 : Int32) (K78 : HS → Int32 → Int32 → Int32 → Int32 → Option (Int32 × HS)) (hK78 : ∀ (h : HS) (w : WF h) (u2 : Int32) (u3 : Int32) (u4 : Int32) (u5 : Int32) (r : Int32 × HS), K78 h u2 u3 u4 u5 = some r → WF r.2) (h : HS) (w : WF h) (v2 : Int32) (v3 : Int32) (v4 : Int32) (v5 : Int32) (r : Int32 × HS) (hp : p234_j172 F a0 K78 h v2 v3 v4 v5 = some r) : WF r.2 := by
  unfold p234_j172 at hp
  exact hK78 (h) (w) (v2) (v3) (v4) ((v5) + 1) _ hp
set_option maxRecDepth 100000 in
set_option maxHeartbeats 4000000 in
theorem p234_j62_ok (d : Nat) (F : Nat) (a0 : Int32) (K14 : HS → Int32 → Int32 → Option (Int32 × HS)) (hK14 : ∀ (h : HS) (w : WF h) (u2 : Int32) (u3 : Int32) (r : Int32 × HS), K14 h u2 u3 = some r → ex (d + 4) 234 (14, [some (.ref (86)), some (.int (a0)), some (.int (u2)), some (.int (u3)), none, none, none, none], [], h) = some (some (.int (r.1)), r.2)) (h : HS) (w : WF h) (v3 : Int32) (s0 : Int32) (s1 : Int32) (r : Int32 × HS) (hp : p234_j62 F a0 K14 h v3 s0 s1 = some r) : ex (d + 4) 234 (62, [some (.ref (86)), some (.int (a0)), none, some (.int (v3)), none, none, none, none], [.int (s0), .int (s1)], h) = some (some (.int (r.1)), r.2) := by
  unfold p234_j62 at hp
  refine e_iadd f234_62 ?_
  refine e_istore_n (ls2 := [some (.ref (86)), some (.int (a0)), some (.int ((s1) + (s0))), some (.int (v3)), none, none, none, none]) f234_63 (Nat.le_of_ble_eq_true rfl) rfl ?_
  refine e_iinc (ls2 := [some (.ref (86)), some (.int (a0)), some (.int ((s1) + (s0))), some (.int ((v3) + 1)), none, none, none, none]) f234_64 (by decide) rfl rfl ?_
  refine e_goto f234_67 ?_
  refine ex_weak (ls := [some (.ref (86)), some (.int (a0)), some (.int ((s1) + (s0))), some (.int ((v3) + 1)), none, none, none, none]) (le2_ok ⟨Or.inr rfl, Or.inr rfl, Or.inr rfl, Or.inr rfl, Or.inl rfl, Or.inl rfl, Or.inl rfl, Or.inl rfl, trivial⟩) ?_
  exact hK14 (h) (w) ((s1) + (s0)) ((v3) + 1) _ hp
set_option maxRecDepth 100000 in
set_option maxHeartbeats 4000000 in
theorem p234_j62_w (F : Nat) (a0 : Int32) (K14 : HS → Int32 → Int32 → Option (Int32 × HS)) (hK14 : ∀ (h : HS) (w : WF h) (u2 : Int32) (u3 : Int32) (r : Int32 × HS), K14 h u2 u3 = some r → WF r.2) (h : HS) (w : WF h) (v3 : Int32) (s0 : Int32) (s1 : Int32) (r : Int32 × HS) (hp : p234_j62 F a0 K14 h v3 s0 s1 = some r) : WF r.2 := by
  unfold p234_j62 at hp
  exact hK14 (h) (w) ((s1) + (s0)) ((v3) + 1) _ hp
set_option maxRecDepth 100000 in
set_option maxHeartbeats 4000000 in
theorem p234_j165_ok (d : Nat) (F : Nat) (a0 : Int32) (K78 : HS → Int32 → Int32 → Int32 → Int32 → Option (Int32 × HS)) (hK78 : ∀ (h : HS) (w : WF h) (u2 : Int32) (u3 : Int32) (u4 : Int32) (u5 : Int32) (r : Int32 × HS), K78 h u2 u3 u4 u5 = some r → ex (d + 4) 234 (78, [some (.ref (86)), some (.int (a0)), some (.int (u2)), some (.int (u3)), some (.int (u4)), some (.int (u5)), none, none], [], h) = some (some (.int (r.1)), r.2)) (h : HS) (w : WF h) (v2 : Int32) (v5 : Int32) (v7 : Int32) (r : Int32 × HS) (hp : p234_j165 F a0 K78 h v2 v5 v7 = some r) : ex (d + 4) 234 (165, [some (.ref (86)), some (.int (a0)), some (.int (v2)), none, none, some (.int (v5)), none, some (.int (v7))], [], h) = some (some (.int (r.1)), r.2) := by
  unfold p234_j165 at hp
  refine e_iload f234_165 rfl ?_
  refine e_istore_n (ls2 := [some (.ref (86)), some (.int (a0)), some (.int (v2)), some (.int (v5)), none, some (.int (v5)), none, some (.int (v7))]) f234_167 (Nat.le_of_ble_eq_true rfl) rfl ?_
  refine e_iload f234_168 rfl ?_
  refine e_istore (ls2 := [some (.ref (86)), some (.int (a0)), some (.int (v2)), some (.int (v5)), some (.int (v7)), some (.int (v5)), none, some (.int (v7))]) f234_170 (Nat.le_of_ble_eq_true rfl) rfl ?_
  refine ex_weak (ls := [some (.ref (86)), some (.int (a0)), some (.int (v2)), some (.int (v5)), some (.int (v7)), some (.int (v5)), none, none]) (le2_ok ⟨Or.inr rfl, Or.inr rfl, Or.inr rfl, Or.inr rfl, Or.inr rfl, Or.inr rfl, Or.inl rfl, Or.inl rfl, trivial⟩) ?_
  exact p234_j172_ok d F a0 (K78) (hK78) (h) (w) (v2) (v5) (v7) (v5) _ hp
set_option maxRecDepth 100000 in
set_option maxHeartbeats 4000000 in
theorem p234_j165_w (F : Nat) (a0 : Int32) (K78 : HS → Int32 → Int32 → Int32 → Int32 → Option (Int32 × HS)) (hK78 : ∀ (h : HS) (w : WF h) (u2 : Int32) (u3 : Int32) (u4 : Int32) (u5 : Int32) (r : Int32 × HS), K78 h u2 u3 u4 u5 = some r → WF r.2) (h : HS) (w : WF h) (v2 : Int32) (v5 : Int32) (v7 : Int32) (r : Int32 × HS) (hp : p234_j165 F a0 K78 h v2 v5 v7 = some r) : WF r.2 := by
  unfold p234_j165 at hp
  exact p234_j172_w F a0 (K78) (hK78) (h) (w) (v2) (v5) (v7) (v5) _ hp
set_option maxRecDepth 100000 in
set_option maxHeartbeats 4000000 in
theorem p234_j46_ok (d : Nat) (F : Nat) (a0 : Int32) (K14 : HS → Int32 → Int32 → Option (Int32 × HS)) (hK14 : ∀ (h : HS) (w : WF h) (u2 : Int32) (u3 : Int32) (r : Int32 × HS), K14 h u2 u3 = some r → ex (d + 4) 234 (14, [some (.ref (86)), some (.int (a0)), some (.int (u2)), some (.int (u3)), none, none, none, none], [], h) = some (some (.int (r.1)), r.2)) (h : HS) (w : WF h) (v2 : Int32) (v3 : Int32) (s0 : Int32) (s1 : Int32) (r : Int32 × HS) (hp : p234_j46 F a0 K14 h v2 v3 s0 s1 = some r) : ex (d + 4) 234 (46, [some (.ref (86)), some (.int (a0)), some (.int (v2)), some (.int (v3)), none, none, none, none], [.int (s0), .int (s1), .ref (125)], h) = some (some (.int (r.1)), r.2) := by
  unfold p234_j46 at hp
  by_cases hg8 : (s1) < (0 : Int32) ∨ 60 ≤ (s1).toNatClampNeg
  · rw [if_pos hg8] at hp; cases hp
  rw [if_neg hg8] at hp
  refine e_zastore f234_46 (WF.t w 125 (by decide)) (WF.n w 125 (by decide)) hg8 ?_
  refine e_iload_n f234_47 rfl ?_
  refine e_aload_n f234_48 rfl ?_
  refine e_getR f234_49 (WF.t w 86 (by decide)) rfl (WF.r (q := 125) w 86 50 (by decide)) ?_
  refine e_iload_n f234_52 rfl ?_
  by_cases hg9 : (v3) < (0 : Int32) ∨ 60 ≤ (v3).toNatClampNeg
  · rw [if_pos hg9] at hp; cases hp
  rw [if_neg hg9] at hp
  refine e_baload f234_53 (Or.inr (WF.t w 125 (by decide))) (WF.n w 125 (by decide)) hg9 ?_
  by_cases hc10 : (hI (hsI (h) (125) (s1).toNatClampNeg (vp_nar .boolean (s0))) (125) (v3).toNatClampNeg) = (0 : Int32)
  · rw [if_pos hc10] at hp
    refine e_if_eq_t f234_54 hc10 ?_
    refine e_iconst (v := 0) f234_61 (by decide) ?_
    refine ex_weak (ls := [some (.ref (86)), some (.int (a0)), none, some (.int (v3)), none, none, none, none]) (le2_ok ⟨Or.inr rfl, Or.inr rfl, Or.inl rfl, Or.inr rfl, Or.inl rfl, Or.inl rfl, Or.inl rfl, Or.inl rfl, trivial⟩) ?_
    exact p234_j62_ok d F a0 (K14) (hK14) (hsI (h) (125) (s1).toNatClampNeg (vp_nar .boolean (s0))) (w) (v3) (0) (v2) _ hp
  · rw [if_neg hc10] at hp
    refine e_if_eq_f f234_54 hc10 ?_
    refine e_iconst (v := 1) f234_57 (by decide) ?_
    refine e_goto f234_58 ?_
    refine ex_weak (ls := [some (.ref (86)), some (.int (a0)), none, some (.int (v3)), none, none, none, none]) (le2_ok ⟨Or.inr rfl, Or.inr rfl, Or.inl rfl, Or.inr rfl, Or.inl rfl, Or.inl rfl, Or.inl rfl, Or.inl rfl, trivial⟩) ?_
    exact p234_j62_ok d F a0 (K14) (hK14) (hsI (h) (125) (s1).toNatClampNeg (vp_nar .boolean (s0))) (w) (v3) (1) (v2) _ hp
set_option maxRecDepth 100000 in
set_option maxHeartbeats 4000000 in
theorem p234_j46_w (F : Nat) (a0 : Int32) (K14 : HS → Int32 → Int32 → Option (Int32 × HS)) (hK14 : ∀ (h : HS) (w : WF h) (u2 : Int32) (u3 : Int32) (r : Int32 × HS), K14 h u2 u3 = some r → WF r.2) (h : HS) (w : WF h) (v2 : Int32) (v3 : Int32) (s0 : Int32) (s1 : Int32) (r : Int32 × HS) (hp : p234_j46 F a0 K14 h v2 v3 s0 s1 = some r) : WF r.2 := by
  unfold p234_j46 at hp
  by_cases hg8 : (s1) < (0 : Int32) ∨ 60 ≤ (s1).toNatClampNeg
  · rw [if_pos hg8] at hp; cases hp
  rw [if_neg hg8] at hp
  by_cases hg9 : (v3) < (0 : Int32) ∨ 60 ≤ (v3).toNatClampNeg
  · rw [if_pos hg9] at hp; cases hp
  rw [if_neg hg9] at hp
  by_cases hc10 : (hI (hsI (h) (125) (s1).toNatClampNeg (vp_nar .boolean (s0))) (125) (v3).toNatClampNeg) = (0 : Int32)
  · rw [if_pos hc10] at hp
    exact p234_j62_w F a0 (K14) (hK14) (hsI (h) (125) (s1).toNatClampNeg (vp_nar .boolean (s0))) (w) (v3) (0) (v2) _ hp
  · rw [if_neg hc10] at hp
    exact p234_j62_w F a0 (K14) (hK14) (hsI (h) (125) (s1).toNatClampNeg (vp_nar .boolean (s0))) (w) (v3) (1) (v2) _ hp
set_option maxRecDepth 100000 in
set_option maxHeartbeats 4000000 in
theorem p234_j145_ok (d : Nat) (F : Nat) (a0 : Int32) (K78 : HS → Int32 → Int32 → Int32 → Int32 → Option (Int32 × HS)) (hK78 : ∀ (h : HS) (w : WF h) (u2 : Int32) (u3 : Int32) (u4 : Int32) (u5 : Int32) (r : Int32 × HS), K78 h u2 u3 u4 u5 = some r → ex (d + 4) 234 (78, [some (.ref (86)), some (.int (a0)), some (.int (u2)), some (.int (u3)), some (.int (u4)), some (.int (u5)), none, none], [], h) = some (some (.int (r.1)), r.2)) (h : HS) (w : WF h) (v2 : Int32) (v3 : Int32) (v4 : Int32) (v5 : Int32) (v6 : Int32) (s0 : Int32) (r : Int32 × HS) (hp : p234_j145 F a0 K78 h v2 v3 v4 v5 v6 s0 = some r) : ex (d + 4) 234 (145, [some (.ref (86)), some (.int (a0)), some (.int (v2)), some (.int (v3)), some (.int (v4)), some (.int (v5)), some (.int (v6)), none], [.int (s0)], h) = some (some (.int (r.1)), r.2) := by
  unfold p234_j145 at hp
  refine e_istore (ls2 := [some (.ref (86)), some (.int (a0)), some (.int (v2)), some (.int (v3)), some (.int (v4)), some (.int (v5)), some (.int (v6)), some (.int (s0))]) f234_145 (Nat.le_of_ble_eq_true rfl) rfl ?_
  refine e_iload f234_147 rfl ?_
  refine e_iload_n f234_149 rfl ?_
  by_cases hc19 : (v6) < ((v2) : Int32)
  · rw [if_pos hc19] at hp
    refine e_icmp_ge_f f234_150 hc19 ?_
    refine e_iload_n f234_153 rfl ?_
    refine e_iconst (v := -1) f234_154 (by decide) ?_
    by_cases hc20 : (v3) = (((-1)) : Int32)
    · rw [if_pos hc20] at hp
      refine e_icmp_eq_t f234_155 hc20 ?_
      refine ex_weak (ls := [some (.ref (86)), some (.int (a0)), some (.int (v2)), none, none, some (.int (v5)), none, some (.int (s0))]) (le2_ok ⟨Or.inr rfl, Or.inr rfl, Or.inr rfl, Or.inl rfl, Or.inl rfl, Or.inr rfl, Or.inl rfl, Or.inr rfl, trivial⟩) ?_
      exact p234_j165_ok d F a0 (K78) (hK78) (h) (w) (v2) (v5) (s0) _ hp
    · rw [if_neg hc20] at hp
      refine e_icmp_eq_f f234_155 hc20 ?_
      refine e_iload f234_158 rfl ?_
      refine e_iload f234_160 rfl ?_
      by_cases hc21 : (s0) < ((v4) : Int32)
      · rw [if_pos hc21] at hp
        refine e_icmp_ge_f f234_162 hc21 ?_
        refine ex_weak (ls := [some (.ref (86)), some (.int (a0)), some (.int (v2)), none, none, some (.int (v5)), none, some (.int (s0))]) (le2_ok ⟨Or.inr rfl, Or.inr rfl, Or.inr rfl, Or.inl rfl, Or.inl rfl, Or.inr rfl, Or.inl rfl, Or.inr rfl, trivial⟩) ?_
        exact p234_j165_ok d F a0 (K78) (hK78) (h) (w) (v2) (v5) (s0) _ hp
      · rw [if_neg hc21] at hp
        refine e_icmp_ge_t f234_162 hc21 ?_
        refine ex_weak (ls := [some (.ref (86)), some (.int (a0)), some (.int (v2)), some (.int (v3)), some (.int (v4)), some (.int (v5)), none, none]) (le2_ok ⟨Or.inr rfl, Or.inr rfl, Or.inr rfl, Or.inr rfl, Or.inr rfl, Or.inr rfl, Or.inl rfl, Or.inl rfl, trivial⟩) ?_
        exact p234_j172_ok d F a0 (K78) (hK78) (h) (w) (v2) (v3) (v4) (v5) _ hp
  · rw [if_neg hc19] at hp
    refine e_icmp_ge_t f234_150 hc19 ?_
    refine ex_weak (ls := [some (.ref (86)), some (.int (a0)), some (.int (v2)), some (.int (v3)), some (.int (v4)), some (.int (v5)), none, none]) (le2_ok ⟨Or.inr rfl, Or.inr rfl, Or.inr rfl, Or.inr rfl, Or.inr rfl, Or.inr rfl, Or.inl rfl, Or.inl rfl, trivial⟩) ?_
    exact p234_j172_ok d F a0 (K78) (hK78) (h) (w) (v2) (v3) (v4) (v5) _ hp
set_option maxRecDepth 100000 in
set_option maxHeartbeats 4000000 in
theorem p234_j145_w (F : Nat) (a0 : Int32) (K78 : HS → Int32 → Int32 → Int32 → Int32 → Option (Int32 × HS)) (hK78 : ∀ (h : HS) (w : WF h) (u2 : Int32) (u3 : Int32) (u4 : Int32) (u5 : Int32) (r : Int32 × HS), K78 h u2 u3 u4 u5 = some r → WF r.2) (h : HS) (w : WF h) (v2 : Int32) (v3 : Int32) (v4 : Int32) (v5 : Int32) (v6 : Int32) (s0 : Int32) (r : Int32 × HS) (hp : p234_j145 F a0 K78 h v2 v3 v4 v5 v6 s0 = some r) : WF r.2 := by
  unfold p234_j145 at hp
  by_cases hc19 : (v6) < ((v2) : Int32)
  · rw [if_pos hc19] at hp
    by_cases hc20 : (v3) = (((-1)) : Int32)
    · rw [if_pos hc20] at hp
      exact p234_j165_w F a0 (K78) (hK78) (h) (w) (v2) (v5) (s0) _ hp
    · rw [if_neg hc20] at hp
      by_cases hc21 : (s0) < ((v4) : Int32)
      · rw [if_pos hc21] at hp
        exact p234_j165_w F a0 (K78) (hK78) (h) (w) (v2) (v5) (s0) _ hp
      · rw [if_neg hc21] at hp
        exact p234_j172_w F a0 (K78) (hK78) (h) (w) (v2) (v3) (v4) (v5) _ hp
  · rw [if_neg hc19] at hp
    exact p234_j172_w F a0 (K78) (hK78) (h) (w) (v2) (v3) (v4) (v5) _ hp
set_option maxRecDepth 100000 in
set_option maxHeartbeats 4000000 in
theorem p234_L78_ok (d : Nat) (F : Nat) (a0 : Int32) : ∀ (n : Nat) (h : HS) (w : WF h) (v2 : Int32) (v3 : Int32) (v4 : Int32) (v5 : Int32) (r : Int32 × HS), p234_L78 F a0 n h v2 v3 v4 v5 = some r → ex (d + 4) 234 (78, [some (.ref (86)), some (.int (a0)), some (.int (v2)), some (.int (v3)), some (.int (v4)), some (.int (v5)), none, none], [], h) = some (some (.int (r.1)), r.2) := by
  intro n
  induction n with
  | zero => intro h w v2 v3 v4 v5 r hp; cases hp
  | succ n ih =>
    intro h w v2 v3 v4 v5 r hp
    unfold p234_L78 at hp
    refine e_iload f234_78 rfl ?_
    refine e_aload_n f234_80 rfl ?_
    refine e_getI f234_81 (WF.t w 86 (by decide)) (by decide) ?_
    by_cases hc11 : (v5) < ((hI (h) (86) 14) : Int32)
    · rw [if_pos hc11] at hp
      refine e_icmp_ge_f f234_84 hc11 ?_
      refine e_aload_n f234_87 rfl ?_
      refine e_getR f234_88 (WF.t w 86 (by decide)) rfl (WF.r (q := 96) w 86 16 (by decide)) ?_
      refine e_iload f234_91 rfl ?_
      by_cases hg12 : (v5) < (0 : Int32) ∨ 200 ≤ (v5).toNatClampNeg
      · rw [if_pos hg12] at hp; cases hp
      rw [if_neg hg12] at hp
      refine e_iaload f234_93 (Or.inl (WF.t w 96 (by decide))) (WF.n w 96 (by decide)) hg12 ?_
      refine e_ldcw (v := 100000) f234_94 (by decide) (by decide) ?_
      by_cases hc13 : (hI (h) (96) (v5).toNatClampNeg) = ((100000) : Int32)
      · rw [if_pos hc13] at hp
        refine e_icmp_ne_f f234_97 hc13 ?_
        refine e_aload_n f234_100 rfl ?_
        refine e_getR f234_101 (WF.t w 86 (by decide)) rfl (WF.r (q := 97) w 86 17 (by decide)) ?_
        refine e_iload f234_104 rfl ?_
        by_cases hg14 : (v5) < (0 : Int32) ∨ 200 ≤ (v5).toNatClampNeg
        · rw [if_pos hg14] at hp; cases hp
        rw [if_neg hg14] at hp
        refine e_iaload f234_106 (Or.inl (WF.t w 97 (by decide))) (WF.n w 97 (by decide)) hg14 ?_
        refine e_ldcw (v := 100000) f234_107 (by decide) (by decide) ?_
        by_cases hc15 : (hI (h) (97) (v5).toNatClampNeg) = ((100000) : Int32)
        · rw [if_pos hc15] at hp
          refine e_icmp_ne_f f234_110 hc15 ?_
          refine e_aload_n f234_113 rfl ?_
          refine e_iload f234_114 rfl ?_
          refine e_iload_n f234_116 rfl ?_
          obtain ⟨r16, hr17, hp⟩ := bind_some hp
          try dsimp only at hp
          refine e_callV (st := []) (o := 86) (as := [.int (v5), .int (a0)]) f234_117 (by decide) rfl rfl (Nat.le_of_ble_eq_true rfl) (WF.t w 86 (by decide)) (Nat.le_of_ble_eq_true rfl) (p233_ok d F (h) w (v5) (a0) r16 hr17) ?_
          show ex _ 234 (120, [some (.ref (86)), some (.int (a0)), some (.int (v2)), some (.int (v3)), some (.int (v4)), some (.int (v5)), none, none], [.int (r16)], h) = _
          refine e_istore (ls2 := [some (.ref (86)), some (.int (a0)), some (.int (v2)), some (.int (v3)), some (.int (v4)), some (.int (v5)), some (.int (r16)), none]) f234_120 (Nat.le_of_ble_eq_true rfl) rfl ?_
          refine e_iconst (v := 2) f234_122 (by decide) ?_
          refine e_iload f234_123 rfl ?_
          refine e_imul f234_125 ?_
          refine e_iload_n f234_126 rfl ?_
          by_cases hc18 : (v2) < (((2) * (r16)) : Int32)
          · rw [if_pos hc18] at hp
            refine e_icmp_le_f f234_127 hc18 ?_
            refine e_iconst (v := 2) f234_130 (by decide) ?_
            refine e_iload f234_131 rfl ?_
            refine e_imul f234_133 ?_
            refine e_iload_n f234_134 rfl ?_
            refine e_isub f234_135 ?_
            refine e_goto f234_136 ?_
            refine ex_weak (ls := [some (.ref (86)), some (.int (a0)), some (.int (v2)), some (.int (v3)), some (.int (v4)), some (.int (v5)), some (.int (r16)), none]) (le2_ok ⟨Or.inr rfl, Or.inr rfl, Or.inr rfl, Or.inr rfl, Or.inr rfl, Or.inr rfl, Or.inr rfl, Or.inl rfl, trivial⟩) ?_
            exact p234_j145_ok d F a0 ((p234_L78 F a0 n)) (ih) (h) (w) (v2) (v3) (v4) (v5) (r16) (((2) * (r16)) - (v2)) _ hp
          · rw [if_neg hc18] at hp
            refine e_icmp_le_t f234_127 hc18 ?_
            refine e_iload_n f234_139 rfl ?_
            refine e_iconst (v := 2) f234_140 (by decide) ?_
            refine e_iload f234_141 rfl ?_
            refine e_imul f234_143 ?_
            refine e_isub f234_144 ?_
            refine ex_weak (ls := [some (.ref (86)), some (.int (a0)), some (.int (v2)), some (.int (v3)), some (.int (v4)), some (.int (v5)), some (.int (r16)), none]) (le2_ok ⟨Or.inr rfl, Or.inr rfl, Or.inr rfl, Or.inr rfl, Or.inr rfl, Or.inr rfl, Or.inr rfl, Or.inl rfl, trivial⟩) ?_
            exact p234_j145_ok d F a0 ((p234_L78 F a0 n)) (ih) (h) (w) (v2) (v3) (v4) (v5) (r16) ((v2) - ((2) * (r16))) _ hp
        · rw [if_neg hc15] at hp
          refine e_icmp_ne_t f234_110 hc15 ?_
          refine ex_weak (ls := [some (.ref (86)), some (.int (a0)), some (.int (v2)), some (.int (v3)), some (.int (v4)), some (.int (v5)), none, none]) (le2_ok ⟨Or.inr rfl, Or.inr rfl, Or.inr rfl, Or.inr rfl, Or.inr rfl, Or.inr rfl, Or.inl rfl, Or.inl rfl, trivial⟩) ?_
          exact p234_j172_ok d F a0 ((p234_L78 F a0 n)) (ih) (h) (w) (v2) (v3) (v4) (v5) _ hp
      · rw [if_neg hc13] at hp
        refine e_icmp_ne_t f234_97 hc13 ?_
        refine ex_weak (ls := [some (.ref (86)), some (.int (a0)), some (.int (v2)), some (.int (v3)), some (.int (v4)), some (.int (v5)), none, none]) (le2_ok ⟨Or.inr rfl, Or.inr rfl, Or.inr rfl, Or.inr rfl, Or.inr rfl, Or.inr rfl, Or.inl rfl, Or.inl rfl, trivial⟩) ?_
        exact p234_j172_ok d F a0 ((p234_L78 F a0 n)) (ih) (h) (w) (v2) (v3) (v4) (v5) _ hp
    · rw [if_neg hc11] at hp
      refine e_icmp_ge_t f234_84 hc11 ?_
      refine e_iload_n f234_178 rfl ?_
      have hp := Option.some.inj hp
      subst hp
      exact e_ireturn f234_179 (Or.inl rfl)
set_option maxRecDepth 100000 in
set_option maxHeartbeats 4000000 in
theorem p234_L78_w (F : Nat) (a0 : Int32) : ∀ (n : Nat) (h : HS) (w : WF h) (v2 : Int32) (v3 : Int32) (v4 : Int32) (v5 : Int32) (r : Int32 × HS), p234_L78 F a0 n h v2 v3 v4 v5 = some r → WF r.2 := by
  intro n
  induction n with
  | zero => intro h w v2 v3 v4 v5 r hp; cases hp
  | succ n ih =>
    intro h w v2 v3 v4 v5 r hp
    unfold p234_L78 at hp
    by_cases hc11 : (v5) < ((hI (h) (86) 14) : Int32)
    · rw [if_pos hc11] at hp
      by_cases hg12 : (v5) < (0 : Int32) ∨ 200 ≤ (v5).toNatClampNeg
      · rw [if_pos hg12] at hp; cases hp
      rw [if_neg hg12] at hp
      by_cases hc13 : (hI (h) (96) (v5).toNatClampNeg) = ((100000) : Int32)
      · rw [if_pos hc13] at hp
        by_cases hg14 : (v5) < (0 : Int32) ∨ 200 ≤ (v5).toNatClampNeg
        · rw [if_pos hg14] at hp; cases hp
        rw [if_neg hg14] at hp
        by_cases hc15 : (hI (h) (97) (v5).toNatClampNeg) = ((100000) : Int32)
        · rw [if_pos hc15] at hp
          obtain ⟨r16, hr17, hp⟩ := bind_some hp
          try dsimp only at hp
          by_cases hc18 : (v2) < (((2) * (r16)) : Int32)
          · rw [if_pos hc18] at hp
            exact p234_j145_w F a0 ((p234_L78 F a0 n)) (ih) (h) (w) (v2) (v3) (v4) (v5) (r16) (((2) * (r16)) - (v2)) _ hp
          · rw [if_neg hc18] at hp
            exact p234_j145_w F a0 ((p234_L78 F a0 n)) (ih) (h) (w) (v2) (v3) (v4) (v5) (r16) ((v2) - ((2) * (r16))) _ hp
        · rw [if_neg hc15] at hp
          exact p234_j172_w F a0 ((p234_L78 F a0 n)) (ih) (h) (w) (v2) (v3) (v4) (v5) _ hp
      · rw [if_neg hc13] at hp
        exact p234_j172_w F a0 ((p234_L78 F a0 n)) (ih) (h) (w) (v2) (v3) (v4) (v5) _ hp
    · rw [if_neg hc11] at hp
      have hp := Option.some.inj hp
      subst hp
      exact (w)
set_option maxRecDepth 100000 in
set_option maxHeartbeats 4000000 in
theorem p234_L14_ok (d : Nat) (F : Nat) (a0 : Int32) : ∀ (n : Nat) (h : HS) (w : WF h) (v2 : Int32) (v3 : Int32) (r : Int32 × HS), p234_L14 F a0 n h v2 v3 = some r → ex (d + 4) 234 (14, [some (.ref (86)), some (.int (a0)), some (.int (v2)), some (.int (v3)), none, none, none, none], [], h) = some (some (.int (r.1)), r.2) := by
  intro n
  induction n with
  | zero => intro h w v2 v3 r hp; cases hp
  | succ n ih =>
    intro h w v2 v3 r hp
    unfold p234_L14 at hp
    refine e_iload_n f234_14 rfl ?_
    refine e_aload_n f234_15 rfl ?_
    refine e_getI f234_16 (WF.t w 86 (by decide)) (by decide) ?_
    by_cases hc4 : (v3) < ((hI (h) (86) 20) : Int32)
    · rw [if_pos hc4] at hp
      refine e_icmp_ge_f f234_19 hc4 ?_
      refine e_aload_n f234_22 rfl ?_
      refine e_getR f234_23 (WF.t w 86 (by decide)) rfl (WF.r (q := 125) w 86 50 (by decide)) ?_
      refine e_iload_n f234_26 rfl ?_
      refine e_aload_n f234_27 rfl ?_
      refine e_iload_n f234_28 rfl ?_
      refine e_iload_n f234_29 rfl ?_
      refine e_aload_n f234_30 rfl ?_
      refine e_getI f234_31 (WF.t w 86 (by decide)) (by decide) ?_
      obtain ⟨r5, hr6, hp⟩ := bind_some hp
      try dsimp only at hp
      refine e_callV (st := [.int (v3), .ref (125)]) (o := 86) (as := [.int (a0), .int (v3), .int (hI (h) (86) 1)]) f234_34 (by decide) rfl rfl (Nat.le_of_ble_eq_true rfl) (WF.t w 86 (by decide)) (Nat.le_of_ble_eq_true rfl) (p226_ok d F (h) w (a0) (v3) (hI (h) (86) 1) r5 hr6) ?_
      show ex _ 234 (37, [some (.ref (86)), some (.int (a0)), some (.int (v2)), some (.int (v3)), none, none, none, none], [.int (r5), .int (v3), .ref (125)], h) = _
      refine e_iconst (v := -1) f234_37 (by decide) ?_
      by_cases hc7 : (r5) = (((-1)) : Int32)
      · rw [if_pos hc7] at hp
        refine e_icmp_ne_f f234_38 hc7 ?_
        refine e_iconst (v := 1) f234_41 (by decide) ?_
        refine e_goto f234_42 ?_
        refine ex_weak (ls := [some (.ref (86)), some (.int (a0)), some (.int (v2)), some (.int (v3)), none, none, none, none]) (le2_ok ⟨Or.inr rfl, Or.inr rfl, Or.inr rfl, Or.inr rfl, Or.inl rfl, Or.inl rfl, Or.inl rfl, Or.inl rfl, trivial⟩) ?_
        exact p234_j46_ok d F a0 ((p234_L14 F a0 n)) (ih) (h) (w) (v2) (v3) (1) (v3) _ hp
      · rw [if_neg hc7] at hp
        refine e_icmp_ne_t f234_38 hc7 ?_
        refine e_iconst (v := 0) f234_45 (by decide) ?_
        refine ex_weak (ls := [some (.ref (86)), some (.int (a0)), some (.int (v2)), some (.int (v3)), none, none, none, none]) (le2_ok ⟨Or.inr rfl, Or.inr rfl, Or.inr rfl, Or.inr rfl, Or.inl rfl, Or.inl rfl, Or.inl rfl, Or.inl rfl, trivial⟩) ?_
        exact p234_j46_ok d F a0 ((p234_L14 F a0 n)) (ih) (h) (w) (v2) (v3) (0) (v3) _ hp
    · rw [if_neg hc4] at hp
      refine e_icmp_ge_t f234_19 hc4 ?_
      refine e_iconst (v := -1) f234_70 (by decide) ?_
      refine e_istore_n (ls2 := [some (.ref (86)), some (.int (a0)), some (.int (v2)), some (.int ((-1))), none, none, none, none]) f234_71 (Nat.le_of_ble_eq_true rfl) rfl ?_
      refine e_iconst (v := 0) f234_72 (by decide) ?_
      refine e_istore (ls2 := [some (.ref (86)), some (.int (a0)), some (.int (v2)), some (.int ((-1))), some (.int (0)), none, none, none]) f234_73 (Nat.le_of_ble_eq_true rfl) rfl ?_
      refine e_iconst (v := 0) f234_75 (by decide) ?_
      refine e_istore (ls2 := [some (.ref (86)), some (.int (a0)), some (.int (v2)), some (.int ((-1))), some (.int (0)), some (.int (0)), none, none]) f234_76 (Nat.le_of_ble_eq_true rfl) rfl ?_
      refine ex_weak (ls := [some (.ref (86)), some (.int (a0)), some (.int (v2)), some (.int ((-1))), some (.int (0)), some (.int (0)), none, none]) (le2_ok ⟨Or.inr rfl, Or.inr rfl, Or.inr rfl, Or.inr rfl, Or.inr rfl, Or.inr rfl, Or.inl rfl, Or.inl rfl, trivial⟩) ?_
      exact p234_L78_ok d F a0 F (h) (w) (v2) ((-1)) (0) (0) _ hp
set_option maxRecDepth 100000 in
set_option maxHeartbeats 4000000 in
theorem p234_L14_w (F : Nat) (a0 : Int32) : ∀ (n : Nat) (h : HS) (w : WF h) (v2 : Int32) (v3 : Int32) (r : Int32 × HS), p234_L14 F a0 n h v2 v3 = some r → WF r.2 := by
  intro n
  induction n with
  | zero => intro h w v2 v3 r hp; cases hp
  | succ n ih =>
    intro h w v2 v3 r hp
    unfold p234_L14 at hp
    by_cases hc4 : (v3) < ((hI (h) (86) 20) : Int32)
    · rw [if_pos hc4] at hp
      obtain ⟨r5, hr6, hp⟩ := bind_some hp
      try dsimp only at hp
      by_cases hc7 : (r5) = (((-1)) : Int32)
      · rw [if_pos hc7] at hp
        exact p234_j46_w F a0 ((p234_L14 F a0 n)) (ih) (h) (w) (v2) (v3) (1) (v3) _ hp
      · rw [if_neg hc7] at hp
        exact p234_j46_w F a0 ((p234_L14 F a0 n)) (ih) (h) (w) (v2) (v3) (0) (v3) _ hp
    · rw [if_neg hc4] at hp
      exact p234_L78_w F a0 F (h) (w) (v2) ((-1)) (0) (0) _ hp
set_option maxRecDepth 100000 in
set_option maxHeartbeats 4000000 in
theorem p234_ok (d : Nat) (F : Nat) (h : HS) (w : WF h) (a0 : Int32) (r : Int32 × HS) (hp : p234 F h a0 = some r) : ex (d + 4) 234 (ent 234 [.ref (86), .int (a0)] h) = some (some (.int (r.1)), r.2) := by
  rw [show ent 234 [.ref (86), .int (a0)] h = (0, [some (.ref (86)), some (.int (a0)), none, none, none, none, none, none], [], h) from by  rfl]
  refine ex_weak (ls := [some (.ref (86)), some (.int (a0)), none, none, none, none, none, none]) (le2_ok ⟨Or.inr rfl, Or.inr rfl, Or.inr rfl, Or.inr rfl, Or.inr rfl, Or.inr rfl, Or.inr rfl, Or.inr rfl, trivial⟩) ?_
  unfold p234 at hp
  refine e_aload_n f234_0 rfl ?_
  refine e_iload_n f234_1 rfl ?_
  obtain ⟨r1, hr2, hp⟩ := bind_some hp
  try dsimp only at hp
  refine e_callV (st := []) (o := 86) (as := [.int (a0)]) f234_2 (by decide) rfl rfl (Nat.le_of_ble_eq_true rfl) (WF.t w 86 (by decide)) (Nat.le_of_ble_eq_true rfl) (p218_ok (d + 2) (h) w (a0) r1 hr2) ?_
  show ex _ 234 (5, [some (.ref (86)), some (.int (a0)), none, none, none, none, none, none], [.int (r1)], h) = _
  by_cases hc3 : (r1) = (0 : Int32)
  · rw [if_pos hc3] at hp
    refine e_if_ne_f f234_5 hc3 ?_
    refine e_iconst (v := -1) f234_8 (by decide) ?_
    have hp := Option.some.inj hp
    subst hp
    exact e_ireturn f234_9 (Or.inl rfl)
  · rw [if_neg hc3] at hp
    refine e_if_ne_t f234_5 hc3 ?_
    refine e_iconst (v := 0) f234_10 (by decide) ?_
    refine e_istore_n (ls2 := [some (.ref (86)), some (.int (a0)), some (.int (0)), none, none, none, none, none]) f234_11 (Nat.le_of_ble_eq_true rfl) rfl ?_
    refine e_iconst (v := 0) f234_12 (by decide) ?_
    refine e_istore_n (ls2 := [some (.ref (86)), some (.int (a0)), some (.int (0)), some (.int (0)), none, none, none, none]) f234_13 (Nat.le_of_ble_eq_true rfl) rfl ?_
    refine ex_weak (ls := [some (.ref (86)), some (.int (a0)), some (.int (0)), some (.int (0)), none, none, none, none]) (le2_ok ⟨Or.inr rfl, Or.inr rfl, Or.inr rfl, Or.inr rfl, Or.inl rfl, Or.inl rfl, Or.inl rfl, Or.inl rfl, trivial⟩) ?_
    exact p234_L14_ok d F a0 F (h) (w) (0) (0) _ hp
set_option maxRecDepth 100000 in
set_option maxHeartbeats 4000000 in
theorem p234_w (F : Nat) (h : HS) (w : WF h) (a0 : Int32) (r : Int32 × HS) (hp : p234 F h a0 = some r) : WF r.2 := by
  unfold p234 at hp
  obtain ⟨r1, hr2, hp⟩ := bind_some hp
  try dsimp only at hp
  by_cases hc3 : (r1) = (0 : Int32)
  · rw [if_pos hc3] at hp
    have hp := Option.some.inj hp
    subst hp
    exact (w)
  · rw [if_neg hc3] at hp
    exact p234_L14_w F a0 F (h) (w) (0) (0) _ hp
theorem f235_0 : fetch 235 0 = some (.iconst 0, 0, 0, 0) := rfl
theorem f235_1 : fetch 235 1 = some (.istore_n 3, 0, 0, 0) := rfl
theorem f235_2 : fetch 235 2 = some (.iload_n 3, 0, 0, 0) := rfl
theorem f235_3 : fetch 235 3 = some (.aload_n 0, 0, 0, 0) := rfl
theorem f235_4 : fetch 235 4 = some (.getfield 314, 12, 20, 0) := rfl
theorem f235_7 : fetch 235 7 = some (.if_icmp .ge 42, 49, 0, 0) := rfl
theorem f235_10 : fetch 235 10 = some (.iload_n 3, 0, 0, 0) := rfl
theorem f235_11 : fetch 235 11 = some (.aload_n 0, 0, 0, 0) := rfl
theorem f235_12 : fetch 235 12 = some (.getfield 88, 12, 38, 2) := rfl
theorem f235_15 : fetch 235 15 = some (.iload_n 1, 0, 0, 0) := rfl
theorem f235_16 : fetch 235 16 = some (.iaload, 0, 0, 0) := rfl
theorem f235_17 : fetch 235 17 = some (.if_icmp .eq 26, 43, 0, 0) := rfl
theorem f235_20 : fetch 235 20 = some (.aload_n 0, 0, 0, 0) := rfl
theorem f235_21 : fetch 235 21 = some (.iload_n 3, 0, 0, 0) := rfl
theorem f235_22 : fetch 235 22 = some (.aload_n 0, 0, 0, 0) := rfl
theorem f235_23 : fetch 235 23 = some (.getfield 94, 12, 40, 2) := rfl
theorem f235_26 : fetch 235 26 = some (.iload_n 1, 0, 0, 0) := rfl
theorem f235_27 : fetch 235 27 = some (.iaload, 0, 0, 0) := rfl
theorem f235_28 : fetch 235 28 = some (.aload_n 0, 0, 0, 0) := rfl
theorem f235_29 : fetch 235 29 = some (.getfield 97, 12, 41, 2) := rfl
theorem f235_32 : fetch 235 32 = some (.iload_n 1, 0, 0, 0) := rfl
theorem f235_33 : fetch 235 33 = some (.iaload, 0, 0, 0) := rfl
theorem f235_34 : fetch 235 34 = some (.iload_n 2, 0, 0, 0) := rfl
theorem f235_35 : fetch 235 35 = some (.invokevirtual 341, 216, 4, 0) := rfl
theorem f235_38 : fetch 235 38 = some (.ifCond .ne 5, 43, 0, 0) := rfl
theorem f235_41 : fetch 235 41 = some (.iconst 0, 0, 0, 0) := rfl
theorem f235_42 : fetch 235 42 = some (.ireturn, 0, 0, 1) := rfl
theorem f235_43 : fetch 235 43 = some (.iinc 3 1, 0, 0, 0) := rfl
theorem f235_46 : fetch 235 46 = some (.goto (-44), 2, 0, 0) := rfl
theorem f235_49 : fetch 235 49 = some (.iconst 1, 0, 0, 0) := rfl
theorem f235_50 : fetch 235 50 = some (.ireturn, 0, 0, 1) := rfl
set_option maxRecDepth 100000 in
set_option maxHeartbeats 4000000 in
theorem p235_j43_ok (d : Nat) (F : Nat) (a0 : Int32) (a1 : Int32) (K2 : Int32 → Option (Int32)) (h : HS) (w : WF h) (hK2 : ∀ (u3 : Int32) (r : Int32), K2 u3 = some r → ex (d + 2) 235 (2, [some (.ref (86)), some (.int (a0)), some (.int (a1)), some (.int (u3))], [], h) = some (some (.int (r)), h)) (v3 : Int32) (r : Int32) (hp : p235_j43 F a0 a1 K2 h v3 = some r) : ex (d + 2) 235 (43, [some (.ref (86)), some (.int (a0)), some (.int (a1)), some (.int (v3))], [], h) = some (some (.int (r)), h) := by
  unfold p235_j43 at hp
  refine e_iinc (ls2 := [some (.ref (86)), some (.int (a0)), some (.int (a1)), some (.int ((v3) + 1))]) f235_43 (by decide) rfl rfl ?_
  refine e_goto f235_46 ?_
  refine ex_weak (ls := [some (.ref (86)), some (.int (a0)), some (.int (a1)), some (.int ((v3) + 1))]) (le2_ok ⟨Or.inr rfl, Or.inr rfl, Or.inr rfl, Or.inr rfl, trivial⟩) ?_
  exact hK2 ((v3) + 1) _ hp
set_option maxRecDepth 100000 in
set_option maxHeartbeats 4000000 in
theorem p235_L2_ok (d : Nat) (F : Nat) (a0 : Int32) (a1 : Int32) (h : HS) (w : WF h)  : ∀ (n : Nat) (v3 : Int32) (r : Int32), p235_L2 F a0 a1 n h v3 = some r → ex (d + 2) 235 (2, [some (.ref (86)), some (.int (a0)), some (.int (a1)), some (.int (v3))], [], h) = some (some (.int (r)), h) := by
  intro n
  induction n with
  | zero => intro v3 r hp; cases hp
  | succ n ih =>
    intro v3 r hp
    unfold p235_L2 at hp
    refine e_iload_n f235_2 rfl ?_
    refine e_aload_n f235_3 rfl ?_
    refine e_getI f235_4 (WF.t w 86 (by decide)) (by decide) ?_
    by_cases hc1 : (v3) < ((hI (h) (86) 20) : Int32)
    · rw [if_pos hc1] at hp
      refine e_icmp_ge_f f235_7 hc1 ?_
      refine e_iload_n f235_10 rfl ?_
      refine e_aload_n f235_11 rfl ?_
      refine e_getR f235_12 (WF.t w 86 (by decide)) rfl (WF.r (q := 113) w 86 38 (by decide)) ?_
      refine e_iload_n f235_15 rfl ?_
      by_cases hg2 : (a0) < (0 : Int32) ∨ 200 ≤ (a0).toNatClampNeg
      · rw [if_pos hg2] at hp; cases hp
      rw [if_neg hg2] at hp
      refine e_iaload f235_16 (Or.inl (WF.t w 113 (by decide))) (WF.n w 113 (by decide)) hg2 ?_
      by_cases hc3 : (v3) = ((hI (h) (113) (a0).toNatClampNeg) : Int32)
      · rw [if_pos hc3] at hp
        refine e_icmp_eq_t f235_17 hc3 ?_
        refine ex_weak (ls := [some (.ref (86)), some (.int (a0)), some (.int (a1)), some (.int (v3))]) (le2_ok ⟨Or.inr rfl, Or.inr rfl, Or.inr rfl, Or.inr rfl, trivial⟩) ?_
        exact p235_j43_ok d F a0 a1 ((p235_L2 F a0 a1 n h)) (h) (w) (ih) (v3) _ hp
      · rw [if_neg hc3] at hp
        refine e_icmp_eq_f f235_17 hc3 ?_
        refine e_aload_n f235_20 rfl ?_
        refine e_iload_n f235_21 rfl ?_
        refine e_aload_n f235_22 rfl ?_
        refine e_getR f235_23 (WF.t w 86 (by decide)) rfl (WF.r (q := 115) w 86 40 (by decide)) ?_
        refine e_iload_n f235_26 rfl ?_
        by_cases hg4 : (a0) < (0 : Int32) ∨ 200 ≤ (a0).toNatClampNeg
        · rw [if_pos hg4] at hp; cases hp
        rw [if_neg hg4] at hp
        refine e_iaload f235_27 (Or.inl (WF.t w 115 (by decide))) (WF.n w 115 (by decide)) hg4 ?_
        refine e_aload_n f235_28 rfl ?_
        refine e_getR f235_29 (WF.t w 86 (by decide)) rfl (WF.r (q := 116) w 86 41 (by decide)) ?_
        refine e_iload_n f235_32 rfl ?_
        by_cases hg5 : (a0) < (0 : Int32) ∨ 200 ≤ (a0).toNatClampNeg
        · rw [if_pos hg5] at hp; cases hp
        rw [if_neg hg5] at hp
        refine e_iaload f235_33 (Or.inl (WF.t w 116 (by decide))) (WF.n w 116 (by decide)) hg5 ?_
        refine e_iload_n f235_34 rfl ?_
        obtain ⟨r6, hr7, hp⟩ := bind_some hp
        try dsimp only at hp
        refine e_callV (st := []) (o := 86) (as := [.int (v3), .int (hI (h) (115) (a0).toNatClampNeg), .int (hI (h) (116) (a0).toNatClampNeg), .int (a1)]) f235_35 (by decide) rfl rfl (Nat.le_of_ble_eq_true rfl) (WF.t w 86 (by decide)) (Nat.le_of_ble_eq_true rfl) (p216_ok d F (h) w (v3) (hI (h) (115) (a0).toNatClampNeg) (hI (h) (116) (a0).toNatClampNeg) (a1) r6 hr7) ?_
        show ex _ 235 (38, [some (.ref (86)), some (.int (a0)), some (.int (a1)), some (.int (v3))], [.int (r6)], h) = _
        by_cases hc8 : (r6) = (0 : Int32)
        · rw [if_pos hc8] at hp
          refine e_if_ne_f f235_38 hc8 ?_
          refine e_iconst (v := 0) f235_41 (by decide) ?_
          have hp := Option.some.inj hp
          subst hp
          exact e_ireturn f235_42 (by decide)
        · rw [if_neg hc8] at hp
          refine e_if_ne_t f235_38 hc8 ?_
          refine ex_weak (ls := [some (.ref (86)), some (.int (a0)), some (.int (a1)), some (.int (v3))]) (le2_ok ⟨Or.inr rfl, Or.inr rfl, Or.inr rfl, Or.inr rfl, trivial⟩) ?_
          exact p235_j43_ok d F a0 a1 ((p235_L2 F a0 a1 n h)) (h) (w) (ih) (v3) _ hp
    · rw [if_neg hc1] at hp
      refine e_icmp_ge_t f235_7 hc1 ?_
      refine e_iconst (v := 1) f235_49 (by decide) ?_
      have hp := Option.some.inj hp
      subst hp
      exact e_ireturn f235_50 (by decide)
set_option maxRecDepth 100000 in
set_option maxHeartbeats 4000000 in
theorem p235_ok (d : Nat) (F : Nat) (h : HS) (w : WF h) (a0 : Int32) (a1 : Int32) (r : Int32) (hp : p235 F h a0 a1 = some r) : ex (d + 2) 235 (ent 235 [.ref (86), .int (a0), .int (a1)] h) = some (some (.int (r)), h) := by
  rw [show ent 235 [.ref (86), .int (a0), .int (a1)] h = (0, [some (.ref (86)), some (.int (a0)), some (.int (a1)), none], [], h) from by  rfl]
  refine ex_weak (ls := [some (.ref (86)), some (.int (a0)), some (.int (a1)), none]) (le2_ok ⟨Or.inr rfl, Or.inr rfl, Or.inr rfl, Or.inr rfl, trivial⟩) ?_
  unfold p235 at hp
  refine e_iconst (v := 0) f235_0 (by decide) ?_
  refine e_istore_n (ls2 := [some (.ref (86)), some (.int (a0)), some (.int (a1)), some (.int (0))]) f235_1 (Nat.le_of_ble_eq_true rfl) rfl ?_
  refine ex_weak (ls := [some (.ref (86)), some (.int (a0)), some (.int (a1)), some (.int (0))]) (le2_ok ⟨Or.inr rfl, Or.inr rfl, Or.inr rfl, Or.inr rfl, trivial⟩) ?_
  exact p235_L2_ok d F a0 a1 (h) (w) F (0) _ hp
theorem f236_0 : fetch 236 0 = some (.iconst (-1), 0, 0, 0) := rfl
theorem f236_1 : fetch 236 1 = some (.istore_n 3, 0, 0, 0) := rfl
theorem f236_2 : fetch 236 2 = some (.iconst 0, 0, 0, 0) := rfl
theorem f236_3 : fetch 236 3 = some (.istore 4, 0, 0, 0) := rfl
theorem f236_5 : fetch 236 5 = some (.iload 4, 0, 0, 0) := rfl
theorem f236_7 : fetch 236 7 = some (.aload_n 0, 0, 0, 0) := rfl
theorem f236_8 : fetch 236 8 = some (.getfield 304, 12, 32, 0) := rfl
theorem f236_11 : fetch 236 11 = some (.if_icmp .ge 185, 196, 0, 0) := rfl
theorem f236_14 : fetch 236 14 = some (.aload_n 0, 0, 0, 0) := rfl
theorem f236_15 : fetch 236 15 = some (.getfield 85, 12, 37, 2) := rfl
theorem f236_18 : fetch 236 18 = some (.iload 4, 0, 0, 0) := rfl
theorem f236_20 : fetch 236 20 = some (.iaload, 0, 0, 0) := rfl
theorem f236_21 : fetch 236 21 = some (.aload_n 0, 0, 0, 0) := rfl
theorem f236_22 : fetch 236 22 = some (.getfield 85, 12, 37, 2) := rfl
theorem f236_25 : fetch 236 25 = some (.iload_n 1, 0, 0, 0) := rfl
theorem f236_26 : fetch 236 26 = some (.iaload, 0, 0, 0) := rfl
theorem f236_27 : fetch 236 27 = some (.if_icmp .eq 71, 98, 0, 0) := rfl
theorem f236_30 : fetch 236 30 = some (.aload_n 0, 0, 0, 0) := rfl
theorem f236_31 : fetch 236 31 = some (.getfield 91, 12, 39, 2) := rfl
theorem f236_34 : fetch 236 34 = some (.iload 4, 0, 0, 0) := rfl
theorem f236_36 : fetch 236 36 = some (.iaload, 0, 0, 0) := rfl
theorem f236_37 : fetch 236 37 = some (.aload_n 0, 0, 0, 0) := rfl
theorem f236_38 : fetch 236 38 = some (.getfield 91, 12, 39, 2) := rfl
theorem f236_41 : fetch 236 41 = some (.iload_n 1, 0, 0, 0) := rfl
theorem f236_42 : fetch 236 42 = some (.iaload, 0, 0, 0) := rfl
theorem f236_43 : fetch 236 43 = some (.if_icmp .ne 55, 98, 0, 0) := rfl
theorem f236_46 : fetch 236 46 = some (.aload_n 0, 0, 0, 0) := rfl
theorem f236_47 : fetch 236 47 = some (.getfield 88, 12, 38, 2) := rfl
theorem f236_50 : fetch 236 50 = some (.iload 4, 0, 0, 0) := rfl
theorem f236_52 : fetch 236 52 = some (.iaload, 0, 0, 0) := rfl
theorem f236_53 : fetch 236 53 = some (.aload_n 0, 0, 0, 0) := rfl
theorem f236_54 : fetch 236 54 = some (.getfield 88, 12, 38, 2) := rfl
theorem f236_57 : fetch 236 57 = some (.iload_n 1, 0, 0, 0) := rfl
theorem f236_58 : fetch 236 58 = some (.iaload, 0, 0, 0) := rfl
theorem f236_59 : fetch 236 59 = some (.if_icmp .ne 39, 98, 0, 0) := rfl
theorem f236_62 : fetch 236 62 = some (.aload_n 0, 0, 0, 0) := rfl
theorem f236_63 : fetch 236 63 = some (.getfield 94, 12, 40, 2) := rfl
theorem f236_66 : fetch 236 66 = some (.iload 4, 0, 0, 0) := rfl
theorem f236_68 : fetch 236 68 = some (.iaload, 0, 0, 0) := rfl
theorem f236_69 : fetch 236 69 = some (.aload_n 0, 0, 0, 0) := rfl
theorem f236_70 : fetch 236 70 = some (.getfield 94, 12, 40, 2) := rfl
theorem f236_73 : fetch 236 73 = some (.iload_n 1, 0, 0, 0) := rfl
theorem f236_74 : fetch 236 74 = some (.iaload, 0, 0, 0) := rfl
theorem f236_75 : fetch 236 75 = some (.if_icmp .ne 23, 98, 0, 0) := rfl
theorem f236_78 : fetch 236 78 = some (.aload_n 0, 0, 0, 0) := rfl
theorem f236_79 : fetch 236 79 = some (.getfield 97, 12, 41, 2) := rfl
theorem f236_82 : fetch 236 82 = some (.iload 4, 0, 0, 0) := rfl
theorem f236_84 : fetch 236 84 = some (.iaload, 0, 0, 0) := rfl
theorem f236_85 : fetch 236 85 = some (.aload_n 0, 0, 0, 0) := rfl
theorem f236_86 : fetch 236 86 = some (.getfield 97, 12, 41, 2) := rfl
theorem f236_89 : fetch 236 89 = some (.iload_n 1, 0, 0, 0) := rfl
theorem f236_90 : fetch 236 90 = some (.iaload, 0, 0, 0) := rfl
theorem f236_91 : fetch 236 91 = some (.if_icmp .ne 7, 98, 0, 0) := rfl
theorem f236_94 : fetch 236 94 = some (.iconst 1, 0, 0, 0) := rfl
theorem f236_95 : fetch 236 95 = some (.goto 4, 99, 0, 0) := rfl
theorem f236_98 : fetch 236 98 = some (.iconst 0, 0, 0, 0) := rfl
theorem f236_99 : fetch 236 99 = some (.istore 5, 0, 0, 0) := rfl
theorem f236_101 : fetch 236 101 = some (.aload_n 0, 0, 0, 0) := rfl
theorem f236_102 : fetch 236 102 = some (.getfield 100, 12, 42, 2) := rfl
theorem f236_105 : fetch 236 105 = some (.iload 4, 0, 0, 0) := rfl
theorem f236_107 : fetch 236 107 = some (.iaload, 0, 0, 0) := rfl
theorem f236_108 : fetch 236 108 = some (.aload_n 0, 0, 0, 0) := rfl
theorem f236_109 : fetch 236 109 = some (.getfield 100, 12, 42, 2) := rfl
theorem f236_112 : fetch 236 112 = some (.iload_n 1, 0, 0, 0) := rfl
theorem f236_113 : fetch 236 113 = some (.iaload, 0, 0, 0) := rfl
theorem f236_114 : fetch 236 114 = some (.if_icmp .lt 25, 139, 0, 0) := rfl
theorem f236_117 : fetch 236 117 = some (.aload_n 0, 0, 0, 0) := rfl
theorem f236_118 : fetch 236 118 = some (.getfield 100, 12, 42, 2) := rfl
theorem f236_121 : fetch 236 121 = some (.iload 4, 0, 0, 0) := rfl
theorem f236_123 : fetch 236 123 = some (.iaload, 0, 0, 0) := rfl
theorem f236_124 : fetch 236 124 = some (.aload_n 0, 0, 0, 0) := rfl
theorem f236_125 : fetch 236 125 = some (.getfield 100, 12, 42, 2) := rfl
theorem f236_128 : fetch 236 128 = some (.iload_n 1, 0, 0, 0) := rfl
theorem f236_129 : fetch 236 129 = some (.iaload, 0, 0, 0) := rfl
theorem f236_130 : fetch 236 130 = some (.if_icmp .ne 13, 143, 0, 0) := rfl
theorem f236_133 : fetch 236 133 = some (.iload 4, 0, 0, 0) := rfl
theorem f236_135 : fetch 236 135 = some (.iload_n 1, 0, 0, 0) := rfl
theorem f236_136 : fetch 236 136 = some (.if_icmp .ge 7, 143, 0, 0) := rfl
theorem f236_139 : fetch 236 139 = some (.iconst 1, 0, 0, 0) := rfl
theorem f236_140 : fetch 236 140 = some (.goto 4, 144, 0, 0) := rfl
theorem f236_143 : fetch 236 143 = some (.iconst 0, 0, 0, 0) := rfl
theorem f236_144 : fetch 236 144 = some (.istore 6, 0, 0, 0) := rfl
theorem f236_146 : fetch 236 146 = some (.iload 5, 0, 0, 0) := rfl
theorem f236_148 : fetch 236 148 = some (.ifCond .eq 42, 190, 0, 0) := rfl
theorem f236_151 : fetch 236 151 = some (.iload 6, 0, 0, 0) := rfl
theorem f236_153 : fetch 236 153 = some (.ifCond .eq 37, 190, 0, 0) := rfl
theorem f236_156 : fetch 236 156 = some (.aload_n 0, 0, 0, 0) := rfl
theorem f236_157 : fetch 236 157 = some (.iload 4, 0, 0, 0) := rfl
theorem f236_159 : fetch 236 159 = some (.iload_n 2, 0, 0, 0) := rfl
theorem f236_160 : fetch 236 160 = some (.invokevirtual 338, 222, 2, 0) := rfl
theorem f236_163 : fetch 236 163 = some (.ifCond .eq 27, 190, 0, 0) := rfl
theorem f236_166 : fetch 236 166 = some (.iload_n 3, 0, 0, 0) := rfl
theorem f236_167 : fetch 236 167 = some (.iconst (-1), 0, 0, 0) := rfl
theorem f236_168 : fetch 236 168 = some (.if_icmp .eq 19, 187, 0, 0) := rfl
theorem f236_171 : fetch 236 171 = some (.aload_n 0, 0, 0, 0) := rfl
theorem f236_172 : fetch 236 172 = some (.getfield 100, 12, 42, 2) := rfl
theorem f236_175 : fetch 236 175 = some (.iload 4, 0, 0, 0) := rfl
theorem f236_177 : fetch 236 177 = some (.iaload, 0, 0, 0) := rfl
theorem f236_178 : fetch 236 178 = some (.aload_n 0, 0, 0, 0) := rfl
theorem f236_179 : fetch 236 179 = some (.getfield 100, 12, 42, 2) := rfl
theorem f236_182 : fetch 236 182 = some (.iload_n 3, 0, 0, 0) := rfl
theorem f236_183 : fetch 236 183 = some (.iaload, 0, 0, 0) := rfl
theorem f236_184 : fetch 236 184 = some (.if_icmp .ge 6, 190, 0, 0) := rfl
theorem f236_187 : fetch 236 187 = some (.iload 4, 0, 0, 0) := rfl
theorem f236_189 : fetch 236 189 = some (.istore_n 3, 0, 0, 0) := rfl
theorem f236_190 : fetch 236 190 = some (.iinc 4 1, 0, 0, 0) := rfl
theorem f236_193 : fetch 236 193 = some (.goto (-188), 5, 0, 0) := rfl
theorem f236_196 : fetch 236 196 = some (.iload_n 3, 0, 0, 0) := rfl
theorem f236_197 : fetch 236 197 = some (.ireturn, 0, 0, 0) := rfl
set_option maxRecDepth 100000 in
set_option maxHeartbeats 4000000 in
theorem p236_j190_ok (d : Nat) (F : Nat) (a0 : Int32) (a1 : Int32) (K5 : Int32 → Int32 → Option (Int32)) (h : HS) (w : WF h) (hK5 : ∀ (u3 : Int32) (u4 : Int32) (r : Int32), K5 u3 u4 = some r → ex (d + 1) 236 (5, [some (.ref (86)), some (.int (a0)), some (.int (a1)), some (.int (u3)), some (.int (u4)), none, none], [], h) = some (some (.int (r)), h)) (v3 : Int32) (v4 : Int32) (r : Int32) (hp : p236_j190 F a0 a1 K5 h v3 v4 = some r) : ex (d + 1) 236 (190, [some (.ref (86)), some (.int (a0)), some (.int (a1)), some (.int (v3)), some (.int (v4)), none, none], [], h) = some (some (.int (r)), h) := by
  unfold p236_j190 at hp
  refine e_iinc (ls2 := [some (.ref (86)), some (.int (a0)), some (.int (a1)), some (.int (v3)), some (.int ((v4) + 1)), none, none]) f236_190 (by decide) rfl rfl ?_
  refine e_goto f236_193 ?_
  refine ex_weak (ls := [some (.ref (86)), some (.int (a0)), some (.int (a1)), some (.int (v3)), some (.int ((v4) + 1)), none, none]) (le2_ok ⟨Or.inr rfl, Or.inr rfl, Or.inr rfl, Or.inr rfl, Or.inr rfl, Or.inl rfl, Or.inl rfl, trivial⟩) ?_
  exact hK5 (v3) ((v4) + 1) _ hp
set_option maxRecDepth 100000 in
set_option maxHeartbeats 4000000 in
theorem p236_j187_ok (d : Nat) (F : Nat) (a0 : Int32) (a1 : Int32) (K5 : Int32 → Int32 → Option (Int32)) (h : HS) (w : WF h) (hK5 : ∀ (u3 : Int32) (u4 : Int32) (r : Int32), K5 u3 u4 = some r → ex (d + 1) 236 (5, [some (.ref (86)), some (.int (a0)), some (.int (a1)), some (.int (u3)), some (.int (u4)), none, none], [], h) = some (some (.int (r)), h)) (v4 : Int32) (r : Int32) (hp : p236_j187 F a0 a1 K5 h v4 = some r) : ex (d + 1) 236 (187, [some (.ref (86)), some (.int (a0)), some (.int (a1)), none, some (.int (v4)), none, none], [], h) = some (some (.int (r)), h) := by
  unfold p236_j187 at hp
  refine e_iload f236_187 rfl ?_
  refine e_istore_n (ls2 := [some (.ref (86)), some (.int (a0)), some (.int (a1)), some (.int (v4)), some (.int (v4)), none, none]) f236_189 (Nat.le_of_ble_eq_true rfl) rfl ?_
  refine ex_weak (ls := [some (.ref (86)), some (.int (a0)), some (.int (a1)), some (.int (v4)), some (.int (v4)), none, none]) (le2_ok ⟨Or.inr rfl, Or.inr rfl, Or.inr rfl, Or.inr rfl, Or.inr rfl, Or.inl rfl, Or.inl rfl, trivial⟩) ?_
  exact p236_j190_ok d F a0 a1 (K5) (h) (w) (hK5) (v4) (v4) _ hp
set_option maxRecDepth 100000 in
set_option maxHeartbeats 4000000 in
theorem p236_j144_ok (d : Nat) (F : Nat) (a0 : Int32) (a1 : Int32) (K5 : Int32 → Int32 → Option (Int32)) (h : HS) (w : WF h) (hK5 : ∀ (u3 : Int32) (u4 : Int32) (r : Int32), K5 u3 u4 = some r → ex (d + 1) 236 (5, [some (.ref (86)), some (.int (a0)), some (.int (a1)), some (.int (u3)), some (.int (u4)), none, none], [], h) = some (some (.int (r)), h)) (v3 : Int32) (v4 : Int32) (v5 : Int32) (s0 : Int32) (r : Int32) (hp : p236_j144 F a0 a1 K5 h v3 v4 v5 s0 = some r) : ex (d + 1) 236 (144, [some (.ref (86)), some (.int (a0)), some (.int (a1)), some (.int (v3)), some (.int (v4)), some (.int (v5)), none], [.int (s0)], h) = some (some (.int (r)), h) := by
  unfold p236_j144 at hp
  refine e_istore (ls2 := [some (.ref (86)), some (.int (a0)), some (.int (a1)), some (.int (v3)), some (.int (v4)), some (.int (v5)), some (.int (s0))]) f236_144 (Nat.le_of_ble_eq_true rfl) rfl ?_
  refine e_iload f236_146 rfl ?_
  by_cases hc24 : (v5) = (0 : Int32)
  · rw [if_pos hc24] at hp
    refine e_if_eq_t f236_148 hc24 ?_
    refine ex_weak (ls := [some (.ref (86)), some (.int (a0)), some (.int (a1)), some (.int (v3)), some (.int (v4)), none, none]) (le2_ok ⟨Or.inr rfl, Or.inr rfl, Or.inr rfl, Or.inr rfl, Or.inr rfl, Or.inl rfl, Or.inl rfl, trivial⟩) ?_
    exact p236_j190_ok d F a0 a1 (K5) (h) (w) (hK5) (v3) (v4) _ hp
  · rw [if_neg hc24] at hp
    refine e_if_eq_f f236_148 hc24 ?_
    refine e_iload f236_151 rfl ?_
    by_cases hc25 : (s0) = (0 : Int32)
    · rw [if_pos hc25] at hp
      refine e_if_eq_t f236_153 hc25 ?_
      refine ex_weak (ls := [some (.ref (86)), some (.int (a0)), some (.int (a1)), some (.int (v3)), some (.int (v4)), none, none]) (le2_ok ⟨Or.inr rfl, Or.inr rfl, Or.inr rfl, Or.inr rfl, Or.inr rfl, Or.inl rfl, Or.inl rfl, trivial⟩) ?_
      exact p236_j190_ok d F a0 a1 (K5) (h) (w) (hK5) (v3) (v4) _ hp
    · rw [if_neg hc25] at hp
      refine e_if_eq_f f236_153 hc25 ?_
      refine e_aload_n f236_156 rfl ?_
      refine e_iload f236_157 rfl ?_
      refine e_iload_n f236_159 rfl ?_
      obtain ⟨r26, hr27, hp⟩ := bind_some hp
      try dsimp only at hp
      refine e_callV (st := []) (o := 86) (as := [.int (v4), .int (a1)]) f236_160 (by decide) rfl rfl (Nat.le_of_ble_eq_true rfl) (WF.t w 86 (by decide)) (Nat.le_of_ble_eq_true rfl) (p222_ok d (h) w (v4) (a1) r26 hr27) ?_
      show ex _ 236 (163, [some (.ref (86)), some (.int (a0)), some (.int (a1)), some (.int (v3)), some (.int (v4)), some (.int (v5)), some (.int (s0))], [.int (r26)], h) = _
      by_cases hc28 : (r26) = (0 : Int32)
      · rw [if_pos hc28] at hp
        refine e_if_eq_t f236_163 hc28 ?_
        refine ex_weak (ls := [some (.ref (86)), some (.int (a0)), some (.int (a1)), some (.int (v3)), some (.int (v4)), none, none]) (le2_ok ⟨Or.inr rfl, Or.inr rfl, Or.inr rfl, Or.inr rfl, Or.inr rfl, Or.inl rfl, Or.inl rfl, trivial⟩) ?_
        exact p236_j190_ok d F a0 a1 (K5) (h) (w) (hK5) (v3) (v4) _ hp
      · rw [if_neg hc28] at hp
        refine e_if_eq_f f236_163 hc28 ?_
        refine e_iload_n f236_166 rfl ?_
        refine e_iconst (v := -1) f236_167 (by decide) ?_
        by_cases hc29 : (v3) = (((-1)) : Int32)
        · rw [if_pos hc29] at hp
          refine e_icmp_eq_t f236_168 hc29 ?_
          refine ex_weak (ls := [some (.ref (86)), some (.int (a0)), some (.int (a1)), none, some (.int (v4)), none, none]) (le2_ok ⟨Or.inr rfl, Or.inr rfl, Or.inr rfl, Or.inl rfl, Or.inr rfl, Or.inl rfl, Or.inl rfl, trivial⟩) ?_
          exact p236_j187_ok d F a0 a1 (K5) (h) (w) (hK5) (v4) _ hp
        · rw [if_neg hc29] at hp
          refine e_icmp_eq_f f236_168 hc29 ?_
          refine e_aload_n f236_171 rfl ?_
          refine e_getR f236_172 (WF.t w 86 (by decide)) rfl (WF.r (q := 117) w 86 42 (by decide)) ?_
          refine e_iload f236_175 rfl ?_
          by_cases hg30 : (v4) < (0 : Int32) ∨ 200 ≤ (v4).toNatClampNeg
          · rw [if_pos hg30] at hp; cases hp
          rw [if_neg hg30] at hp
          refine e_iaload f236_177 (Or.inl (WF.t w 117 (by decide))) (WF.n w 117 (by decide)) hg30 ?_
          refine e_aload_n f236_178 rfl ?_
          refine e_getR f236_179 (WF.t w 86 (by decide)) rfl (WF.r (q := 117) w 86 42 (by decide)) ?_
          refine e_iload_n f236_182 rfl ?_
          by_cases hg31 : (v3) < (0 : Int32) ∨ 200 ≤ (v3).toNatClampNeg
          · rw [if_pos hg31] at hp; cases hp
          rw [if_neg hg31] at hp
          refine e_iaload f236_183 (Or.inl (WF.t w 117 (by decide))) (WF.n w 117 (by decide)) hg31 ?_
          by_cases hc32 : (hI (h) (117) (v4).toNatClampNeg) < ((hI (h) (117) (v3).toNatClampNeg) : Int32)
          · rw [if_pos hc32] at hp
            refine e_icmp_ge_f f236_184 hc32 ?_
            refine ex_weak (ls := [some (.ref (86)), some (.int (a0)), some (.int (a1)), none, some (.int (v4)), none, none]) (le2_ok ⟨Or.inr rfl, Or.inr rfl, Or.inr rfl, Or.inl rfl, Or.inr rfl, Or.inl rfl, Or.inl rfl, trivial⟩) ?_
            exact p236_j187_ok d F a0 a1 (K5) (h) (w) (hK5) (v4) _ hp
          · rw [if_neg hc32] at hp
            refine e_icmp_ge_t f236_184 hc32 ?_
            refine ex_weak (ls := [some (.ref (86)), some (.int (a0)), some (.int (a1)), some (.int (v3)), some (.int (v4)), none, none]) (le2_ok ⟨Or.inr rfl, Or.inr rfl, Or.inr rfl, Or.inr rfl, Or.inr rfl, Or.inl rfl, Or.inl rfl, trivial⟩) ?_
            exact p236_j190_ok d F a0 a1 (K5) (h) (w) (hK5) (v3) (v4) _ hp
set_option maxRecDepth 100000 in
set_option maxHeartbeats 4000000 in
theorem p236_j139_ok (d : Nat) (F : Nat) (a0 : Int32) (a1 : Int32) (K5 : Int32 → Int32 → Option (Int32)) (h : HS) (w : WF h) (hK5 : ∀ (u3 : Int32) (u4 : Int32) (r : Int32), K5 u3 u4 = some r → ex (d + 1) 236 (5, [some (.ref (86)), some (.int (a0)), some (.int (a1)), some (.int (u3)), some (.int (u4)), none, none], [], h) = some (some (.int (r)), h)) (v3 : Int32) (v4 : Int32) (v5 : Int32) (r : Int32) (hp : p236_j139 F a0 a1 K5 h v3 v4 v5 = some r) : ex (d + 1) 236 (139, [some (.ref (86)), some (.int (a0)), some (.int (a1)), some (.int (v3)), some (.int (v4)), some (.int (v5)), none], [], h) = some (some (.int (r)), h) := by
  unfold p236_j139 at hp
  refine e_iconst (v := 1) f236_139 (by decide) ?_
  refine e_goto f236_140 ?_
  refine ex_weak (ls := [some (.ref (86)), some (.int (a0)), some (.int (a1)), some (.int (v3)), some (.int (v4)), some (.int (v5)), none]) (le2_ok ⟨Or.inr rfl, Or.inr rfl, Or.inr rfl, Or.inr rfl, Or.inr rfl, Or.inr rfl, Or.inl rfl, trivial⟩) ?_
  exact p236_j144_ok d F a0 a1 (K5) (h) (w) (hK5) (v3) (v4) (v5) (1) _ hp
set_option maxRecDepth 100000 in
set_option maxHeartbeats 4000000 in
theorem p236_j143_ok (d : Nat) (F : Nat) (a0 : Int32) (a1 : Int32) (K5 : Int32 → Int32 → Option (Int32)) (h : HS) (w : WF h) (hK5 : ∀ (u3 : Int32) (u4 : Int32) (r : Int32), K5 u3 u4 = some r → ex (d + 1) 236 (5, [some (.ref (86)), some (.int (a0)), some (.int (a1)), some (.int (u3)), some (.int (u4)), none, none], [], h) = some (some (.int (r)), h)) (v3 : Int32) (v4 : Int32) (v5 : Int32) (r : Int32) (hp : p236_j143 F a0 a1 K5 h v3 v4 v5 = some r) : ex (d + 1) 236 (143, [some (.ref (86)), some (.int (a0)), some (.int (a1)), some (.int (v3)), some (.int (v4)), some (.int (v5)), none], [], h) = some (some (.int (r)), h) := by
  unfold p236_j143 at hp
  refine e_iconst (v := 0) f236_143 (by decide) ?_
  refine ex_weak (ls := [some (.ref (86)), some (.int (a0)), some (.int (a1)), some (.int (v3)), some (.int (v4)), some (.int (v5)), none]) (le2_ok ⟨Or.inr rfl, Or.inr rfl, Or.inr rfl, Or.inr rfl, Or.inr rfl, Or.inr rfl, Or.inl rfl, trivial⟩) ?_
  exact p236_j144_ok d F a0 a1 (K5) (h) (w) (hK5) (v3) (v4) (v5) (0) _ hp
set_option maxRecDepth 100000 in
set_option maxHeartbeats 4000000 in
theorem p236_j99_ok (d : Nat) (F : Nat) (a0 : Int32) (a1 : Int32) (K5 : Int32 → Int32 → Option (Int32)) (h : HS) (w : WF h) (hK5 : ∀ (u3 : Int32) (u4 : Int32) (r : Int32), K5 u3 u4 = some r → ex (d + 1) 236 (5, [some (.ref (86)), some (.int (a0)), some (.int (a1)), some (.int (u3)), some (.int (u4)), none, none], [], h) = some (some (.int (r)), h)) (v3 : Int32) (v4 : Int32) (s0 : Int32) (r : Int32) (hp : p236_j99 F a0 a1 K5 h v3 v4 s0 = some r) : ex (d + 1) 236 (99, [some (.ref (86)), some (.int (a0)), some (.int (a1)), some (.int (v3)), some (.int (v4)), none, none], [.int (s0)], h) = some (some (.int (r)), h) := by
  unfold p236_j99 at hp
  refine e_istore (ls2 := [some (.ref (86)), some (.int (a0)), some (.int (a1)), some (.int (v3)), some (.int (v4)), some (.int (s0)), none]) f236_99 (Nat.le_of_ble_eq_true rfl) rfl ?_
  refine e_aload_n f236_101 rfl ?_
  refine e_getR f236_102 (WF.t w 86 (by decide)) rfl (WF.r (q := 117) w 86 42 (by decide)) ?_
  refine e_iload f236_105 rfl ?_
  by_cases hg17 : (v4) < (0 : Int32) ∨ 200 ≤ (v4).toNatClampNeg
  · rw [if_pos hg17] at hp; cases hp
  rw [if_neg hg17] at hp
  refine e_iaload f236_107 (Or.inl (WF.t w 117 (by decide))) (WF.n w 117 (by decide)) hg17 ?_
  refine e_aload_n f236_108 rfl ?_
  refine e_getR f236_109 (WF.t w 86 (by decide)) rfl (WF.r (q := 117) w 86 42 (by decide)) ?_
  refine e_iload_n f236_112 rfl ?_
  by_cases hg18 : (a0) < (0 : Int32) ∨ 200 ≤ (a0).toNatClampNeg
  · rw [if_pos hg18] at hp; cases hp
  rw [if_neg hg18] at hp
  refine e_iaload f236_113 (Or.inl (WF.t w 117 (by decide))) (WF.n w 117 (by decide)) hg18 ?_
  by_cases hc19 : (hI (h) (117) (v4).toNatClampNeg) < ((hI (h) (117) (a0).toNatClampNeg) : Int32)
  · rw [if_pos hc19] at hp
    refine e_icmp_lt_t f236_114 hc19 ?_
    refine ex_weak (ls := [some (.ref (86)), some (.int (a0)), some (.int (a1)), some (.int (v3)), some (.int (v4)), some (.int (s0)), none]) (le2_ok ⟨Or.inr rfl, Or.inr rfl, Or.inr rfl, Or.inr rfl, Or.inr rfl, Or.inr rfl, Or.inl rfl, trivial⟩) ?_
    exact p236_j139_ok d F a0 a1 (K5) (h) (w) (hK5) (v3) (v4) (s0) _ hp
  · rw [if_neg hc19] at hp
    refine e_icmp_lt_f f236_114 hc19 ?_
    refine e_aload_n f236_117 rfl ?_
    refine e_getR f236_118 (WF.t w 86 (by decide)) rfl (WF.r (q := 117) w 86 42 (by decide)) ?_
    refine e_iload f236_121 rfl ?_
    by_cases hg20 : (v4) < (0 : Int32) ∨ 200 ≤ (v4).toNatClampNeg
    · rw [if_pos hg20] at hp; cases hp
    rw [if_neg hg20] at hp
    refine e_iaload f236_123 (Or.inl (WF.t w 117 (by decide))) (WF.n w 117 (by decide)) hg20 ?_
    refine e_aload_n f236_124 rfl ?_
    refine e_getR f236_125 (WF.t w 86 (by decide)) rfl (WF.r (q := 117) w 86 42 (by decide)) ?_
    refine e_iload_n f236_128 rfl ?_
    by_cases hg21 : (a0) < (0 : Int32) ∨ 200 ≤ (a0).toNatClampNeg
    · rw [if_pos hg21] at hp; cases hp
    rw [if_neg hg21] at hp
    refine e_iaload f236_129 (Or.inl (WF.t w 117 (by decide))) (WF.n w 117 (by decide)) hg21 ?_
    by_cases hc22 : (hI (h) (117) (v4).toNatClampNeg) = ((hI (h) (117) (a0).toNatClampNeg) : Int32)
    · rw [if_pos hc22] at hp
      refine e_icmp_ne_f f236_130 hc22 ?_
      refine e_iload f236_133 rfl ?_
      refine e_iload_n f236_135 rfl ?_
      by_cases hc23 : (v4) < ((a0) : Int32)
      · rw [if_pos hc23] at hp
        refine e_icmp_ge_f f236_136 hc23 ?_
        refine ex_weak (ls := [some (.ref (86)), some (.int (a0)), some (.int (a1)), some (.int (v3)), some (.int (v4)), some (.int (s0)), none]) (le2_ok ⟨Or.inr rfl, Or.inr rfl, Or.inr rfl, Or.inr rfl, Or.inr rfl, Or.inr rfl, Or.inl rfl, trivial⟩) ?_
        exact p236_j139_ok d F a0 a1 (K5) (h) (w) (hK5) (v3) (v4) (s0) _ hp
      · rw [if_neg hc23] at hp
        refine e_icmp_ge_t f236_136 hc23 ?_
        refine ex_weak (ls := [some (.ref (86)), some (.int (a0)), some (.int (a1)), some (.int (v3)), some (.int (v4)), some (.int (s0)), none]) (le2_ok ⟨Or.inr rfl, Or.inr rfl, Or.inr rfl, Or.inr rfl, Or.inr rfl, Or.inr rfl, Or.inl rfl, trivial⟩) ?_
        exact p236_j143_ok d F a0 a1 (K5) (h) (w) (hK5) (v3) (v4) (s0) _ hp
    · rw [if_neg hc22] at hp
      refine e_icmp_ne_t f236_130 hc22 ?_
      refine ex_weak (ls := [some (.ref (86)), some (.int (a0)), some (.int (a1)), some (.int (v3)), some (.int (v4)), some (.int (s0)), none]) (le2_ok ⟨Or.inr rfl, Or.inr rfl, Or.inr rfl, Or.inr rfl, Or.inr rfl, Or.inr rfl, Or.inl rfl, trivial⟩) ?_
      exact p236_j143_ok d F a0 a1 (K5) (h) (w) (hK5) (v3) (v4) (s0) _ hp
set_option maxRecDepth 100000 in
set_option maxHeartbeats 4000000 in
theorem p236_j98_ok (d : Nat) (F : Nat) (a0 : Int32) (a1 : Int32) (K5 : Int32 → Int32 → Option (Int32)) (h : HS) (w : WF h) (hK5 : ∀ (u3 : Int32) (u4 : Int32) (r : Int32), K5 u3 u4 = some r → ex (d + 1) 236 (5, [some (.ref (86)), some (.int (a0)), some (.int (a1)), some (.int (u3)), some (.int (u4)), none, none], [], h) = some (some (.int (r)), h)) (v3 : Int32) (v4 : Int32) (r : Int32) (hp : p236_j98 F a0 a1 K5 h v3 v4 = some r) : ex (d + 1) 236 (98, [some (.ref (86)), some (.int (a0)), some (.int (a1)), some (.int (v3)), some (.int (v4)), none, none], [], h) = some (some (.int (r)), h) := by
  unfold p236_j98 at hp
  refine e_iconst (v := 0) f236_98 (by decide) ?_
  refine ex_weak (ls := [some (.ref (86)), some (.int (a0)), some (.int (a1)), some (.int (v3)), some (.int (v4)), none, none]) (le2_ok ⟨Or.inr rfl, Or.inr rfl, Or.inr rfl, Or.inr rfl, Or.inr rfl, Or.inl rfl, Or.inl rfl, trivial⟩) ?_
  exact p236_j99_ok d F a0 a1 (K5) (h) (w) (hK5) (v3) (v4) (0) _ hp
set_option maxRecDepth 100000 in
set_option maxHeartbeats 4000000 in
theorem p236_L5_ok (d : Nat) (F : Nat) (a0 : Int32) (a1 : Int32) (h : HS) (w : WF h)  : ∀ (n : Nat) (v3 : Int32) (v4 : Int32) (r : Int32), p236_L5 F a0 a1 n h v3 v4 = some r → ex (d + 1) 236 (5, [some (.ref (86)), some (.int (a0)), some (.int (a1)), some (.int (v3)), some (.int (v4)), none, none], [], h) = some (some (.int (r)), h) := by
  intro n
  induction n with
  | zero => intro v3 v4 r hp; cases hp
  | succ n ih =>
    intro v3 v4 r hp
    unfold p236_L5 at hp
    refine e_iload f236_5 rfl ?_
    refine e_aload_n f236_7 rfl ?_
    refine e_getI f236_8 (WF.t w 86 (by decide)) (by decide) ?_
    by_cases hc1 : (v4) < ((hI (h) (86) 32) : Int32)
    · rw [if_pos hc1] at hp
      refine e_icmp_ge_f f236_11 hc1 ?_
      refine e_aload_n f236_14 rfl ?_
      refine e_getR f236_15 (WF.t w 86 (by decide)) rfl (WF.r (q := 112) w 86 37 (by decide)) ?_
      refine e_iload f236_18 rfl ?_
      by_cases hg2 : (v4) < (0 : Int32) ∨ 200 ≤ (v4).toNatClampNeg
      · rw [if_pos hg2] at hp; cases hp
      rw [if_neg hg2] at hp
      refine e_iaload f236_20 (Or.inl (WF.t w 112 (by decide))) (WF.n w 112 (by decide)) hg2 ?_
      refine e_aload_n f236_21 rfl ?_
      refine e_getR f236_22 (WF.t w 86 (by decide)) rfl (WF.r (q := 112) w 86 37 (by decide)) ?_
      refine e_iload_n f236_25 rfl ?_
      by_cases hg3 : (a0) < (0 : Int32) ∨ 200 ≤ (a0).toNatClampNeg
      · rw [if_pos hg3] at hp; cases hp
      rw [if_neg hg3] at hp
      refine e_iaload f236_26 (Or.inl (WF.t w 112 (by decide))) (WF.n w 112 (by decide)) hg3 ?_
      by_cases hc4 : (hI (h) (112) (v4).toNatClampNeg) = ((hI (h) (112) (a0).toNatClampNeg) : Int32)
      · rw [if_pos hc4] at hp
        refine e_icmp_eq_t f236_27 hc4 ?_
        refine ex_weak (ls := [some (.ref (86)), some (.int (a0)), some (.int (a1)), some (.int (v3)), some (.int (v4)), none, none]) (le2_ok ⟨Or.inr rfl, Or.inr rfl, Or.inr rfl, Or.inr rfl, Or.inr rfl, Or.inl rfl, Or.inl rfl, trivial⟩) ?_
        exact p236_j98_ok d F a0 a1 ((p236_L5 F a0 a1 n h)) (h) (w) (ih) (v3) (v4) _ hp
      · rw [if_neg hc4] at hp
        refine e_icmp_eq_f f236_27 hc4 ?_
        refine e_aload_n f236_30 rfl ?_
        refine e_getR f236_31 (WF.t w 86 (by decide)) rfl (WF.r (q := 114) w 86 39 (by decide)) ?_
        refine e_iload f236_34 rfl ?_
        by_cases hg5 : (v4) < (0 : Int32) ∨ 200 ≤ (v4).toNatClampNeg
        · rw [if_pos hg5] at hp; cases hp
        rw [if_neg hg5] at hp
        refine e_iaload f236_36 (Or.inl (WF.t w 114 (by decide))) (WF.n w 114 (by decide)) hg5 ?_
        refine e_aload_n f236_37 rfl ?_
        refine e_getR f236_38 (WF.t w 86 (by decide)) rfl (WF.r (q := 114) w 86 39 (by decide)) ?_
        refine e_iload_n f236_41 rfl ?_
        by_cases hg6 : (a0) < (0 : Int32) ∨ 200 ≤ (a0).toNatClampNeg
        · rw [if_pos hg6] at hp; cases hp
        rw [if_neg hg6] at hp
        refine e_iaload f236_42 (Or.inl (WF.t w 114 (by decide))) (WF.n w 114 (by decide)) hg6 ?_
        by_cases hc7 : (hI (h) (114) (v4).toNatClampNeg) = ((hI (h) (114) (a0).toNatClampNeg) : Int32)
        · rw [if_pos hc7] at hp
          refine e_icmp_ne_f f236_43 hc7 ?_
          refine e_aload_n f236_46 rfl ?_
          refine e_getR f236_47 (WF.t w 86 (by decide)) rfl (WF.r (q := 113) w 86 38 (by decide)) ?_
          refine e_iload f236_50 rfl ?_
          by_cases hg8 : (v4) < (0 : Int32) ∨ 200 ≤ (v4).toNatClampNeg
          · rw [if_pos hg8] at hp; cases hp
          rw [if_neg hg8] at hp
          refine e_iaload f236_52 (Or.inl (WF.t w 113 (by decide))) (WF.n w 113 (by decide)) hg8 ?_
          refine e_aload_n f236_53 rfl ?_
          refine e_getR f236_54 (WF.t w 86 (by decide)) rfl (WF.r (q := 113) w 86 38 (by decide)) ?_
          refine e_iload_n f236_57 rfl ?_
          by_cases hg9 : (a0) < (0 : Int32) ∨ 200 ≤ (a0).toNatClampNeg
          · rw [if_pos hg9] at hp; cases hp
          rw [if_neg hg9] at hp
          refine e_iaload f236_58 (Or.inl (WF.t w 113 (by decide))) (WF.n w 113 (by decide)) hg9 ?_
          by_cases hc10 : (hI (h) (113) (v4).toNatClampNeg) = ((hI (h) (113) (a0).toNatClampNeg) : Int32)
          · rw [if_pos hc10] at hp
            refine e_icmp_ne_f f236_59 hc10 ?_
            refine e_aload_n f236_62 rfl ?_
            refine e_getR f236_63 (WF.t w 86 (by decide)) rfl (WF.r (q := 115) w 86 40 (by decide)) ?_
            refine e_iload f236_66 rfl ?_
            by_cases hg11 : (v4) < (0 : Int32) ∨ 200 ≤ (v4).toNatClampNeg
            · rw [if_pos hg11] at hp; cases hp
            rw [if_neg hg11] at hp
            refine e_iaload f236_68 (Or.inl (WF.t w 115 (by decide))) (WF.n w 115 (by decide)) hg11 ?_
            refine e_aload_n f236_69 rfl ?_
            refine e_getR f236_70 (WF.t w 86 (by decide)) rfl (WF.r (q := 115) w 86 40 (by decide)) ?_
            refine e_iload_n f236_73 rfl ?_
            by_cases hg12 : (a0) < (0 : Int32) ∨ 200 ≤ (a0).toNatClampNeg
            · rw [if_pos hg12] at hp; cases hp
            rw [if_neg hg12] at hp
            refine e_iaload f236_74 (Or.inl (WF.t w 115 (by decide))) (WF.n w 115 (by decide)) hg12 ?_
            by_cases hc13 : (hI (h) (115) (v4).toNatClampNeg) = ((hI (h) (115) (a0).toNatClampNeg) : Int32)
            · rw [if_pos hc13] at hp
              refine e_icmp_ne_f f236_75 hc13 ?_
              refine e_aload_n f236_78 rfl ?_
              refine e_getR f236_79 (WF.t w 86 (by decide)) rfl (WF.r (q := 116) w 86 41 (by decide)) ?_
              refine e_iload f236_82 rfl ?_
              by_cases hg14 : (v4) < (0 : Int32) ∨ 200 ≤ (v4).toNatClampNeg
              · rw [if_pos hg14] at hp; cases hp
              rw [if_neg hg14] at hp
              refine e_iaload f236_84 (Or.inl (WF.t w 116 (by decide))) (WF.n w 116 (by decide)) hg14 ?_
              refine e_aload_n f236_85 rfl ?_
              refine e_getR f236_86 (WF.t w 86 (by decide)) rfl (WF.r (q := 116) w 86 41 (by decide)) ?_
              refine e_iload_n f236_89 rfl ?_
              by_cases hg15 : (a0) < (0 : Int32) ∨ 200 ≤ (a0).toNatClampNeg
              · rw [if_pos hg15] at hp; cases hp
              rw [if_neg hg15] at hp
              refine e_iaload f236_90 (Or.inl (WF.t w 116 (by decide))) (WF.n w 116 (by decide)) hg15 ?_
              by_cases hc16 : (hI (h) (116) (v4).toNatClampNeg) = ((hI (h) (116) (a0).toNatClampNeg) : Int32)
              · rw [if_pos hc16] at hp
                refine e_icmp_ne_f f236_91 hc16 ?_
                refine e_iconst (v := 1) f236_94 (by decide) ?_
                refine e_goto f236_95 ?_
                refine ex_weak (ls := [some (.ref (86)), some (.int (a0)), some (.int (a1)), some (.int (v3)), some (.int (v4)), none, none]) (le2_ok ⟨Or.inr rfl, Or.inr rfl, Or.inr rfl, Or.inr rfl, Or.inr rfl, Or.inl rfl, Or.inl rfl, trivial⟩) ?_
                exact p236_j99_ok d F a0 a1 ((p236_L5 F a0 a1 n h)) (h) (w) (ih) (v3) (v4) (1) _ hp
              · rw [if_neg hc16] at hp
                refine e_icmp_ne_t f236_91 hc16 ?_
                refine ex_weak (ls := [some (.ref (86)), some (.int (a0)), some (.int (a1)), some (.int (v3)), some (.int (v4)), none, none]) (le2_ok ⟨Or.inr rfl, Or.inr rfl, Or.inr rfl, Or.inr rfl, Or.inr rfl, Or.inl rfl, Or.inl rfl, trivial⟩) ?_
                exact p236_j98_ok d F a0 a1 ((p236_L5 F a0 a1 n h)) (h) (w) (ih) (v3) (v4) _ hp
            · rw [if_neg hc13] at hp
              refine e_icmp_ne_t f236_75 hc13 ?_
              refine ex_weak (ls := [some (.ref (86)), some (.int (a0)), some (.int (a1)), some (.int (v3)), some (.int (v4)), none, none]) (le2_ok ⟨Or.inr rfl, Or.inr rfl, Or.inr rfl, Or.inr rfl, Or.inr rfl, Or.inl rfl, Or.inl rfl, trivial⟩) ?_
              exact p236_j98_ok d F a0 a1 ((p236_L5 F a0 a1 n h)) (h) (w) (ih) (v3) (v4) _ hp
          · rw [if_neg hc10] at hp
            refine e_icmp_ne_t f236_59 hc10 ?_
            refine ex_weak (ls := [some (.ref (86)), some (.int (a0)), some (.int (a1)), some (.int (v3)), some (.int (v4)), none, none]) (le2_ok ⟨Or.inr rfl, Or.inr rfl, Or.inr rfl, Or.inr rfl, Or.inr rfl, Or.inl rfl, Or.inl rfl, trivial⟩) ?_
            exact p236_j98_ok d F a0 a1 ((p236_L5 F a0 a1 n h)) (h) (w) (ih) (v3) (v4) _ hp
        · rw [if_neg hc7] at hp
          refine e_icmp_ne_t f236_43 hc7 ?_
          refine ex_weak (ls := [some (.ref (86)), some (.int (a0)), some (.int (a1)), some (.int (v3)), some (.int (v4)), none, none]) (le2_ok ⟨Or.inr rfl, Or.inr rfl, Or.inr rfl, Or.inr rfl, Or.inr rfl, Or.inl rfl, Or.inl rfl, trivial⟩) ?_
          exact p236_j98_ok d F a0 a1 ((p236_L5 F a0 a1 n h)) (h) (w) (ih) (v3) (v4) _ hp
    · rw [if_neg hc1] at hp
      refine e_icmp_ge_t f236_11 hc1 ?_
      refine e_iload_n f236_196 rfl ?_
      have hp := Option.some.inj hp
      subst hp
      exact e_ireturn f236_197 (Or.inl rfl)
set_option maxRecDepth 100000 in
set_option maxHeartbeats 4000000 in
theorem p236_ok (d : Nat) (F : Nat) (h : HS) (w : WF h) (a0 : Int32) (a1 : Int32) (r : Int32) (hp : p236 F h a0 a1 = some r) : ex (d + 1) 236 (ent 236 [.ref (86), .int (a0), .int (a1)] h) = some (some (.int (r)), h) := by
  rw [show ent 236 [.ref (86), .int (a0), .int (a1)] h = (0, [some (.ref (86)), some (.int (a0)), some (.int (a1)), none, none, none, none], [], h) from by  rfl]
  refine ex_weak (ls := [some (.ref (86)), some (.int (a0)), some (.int (a1)), none, none, none, none]) (le2_ok ⟨Or.inr rfl, Or.inr rfl, Or.inr rfl, Or.inr rfl, Or.inr rfl, Or.inr rfl, Or.inr rfl, trivial⟩) ?_
  unfold p236 at hp
  refine e_iconst (v := -1) f236_0 (by decide) ?_
  refine e_istore_n (ls2 := [some (.ref (86)), some (.int (a0)), some (.int (a1)), some (.int ((-1))), none, none, none]) f236_1 (Nat.le_of_ble_eq_true rfl) rfl ?_
  refine e_iconst (v := 0) f236_2 (by decide) ?_
  refine e_istore (ls2 := [some (.ref (86)), some (.int (a0)), some (.int (a1)), some (.int ((-1))), some (.int (0)), none, none]) f236_3 (Nat.le_of_ble_eq_true rfl) rfl ?_
  refine ex_weak (ls := [some (.ref (86)), some (.int (a0)), some (.int (a1)), some (.int ((-1))), some (.int (0)), none, none]) (le2_ok ⟨Or.inr rfl, Or.inr rfl, Or.inr rfl, Or.inr rfl, Or.inr rfl, Or.inl rfl, Or.inl rfl, trivial⟩) ?_
  exact p236_L5_ok d F a0 a1 (h) (w) F ((-1)) (0) _ hp
theorem f237_0 : fetch 237 0 = some (.aload_n 0, 0, 0, 0) := rfl
theorem f237_1 : fetch 237 1 = some (.iload_n 1, 0, 0, 0) := rfl
theorem f237_2 : fetch 237 2 = some (.invokevirtual 332, 220, 1, 0) := rfl
theorem f237_5 : fetch 237 5 = some (.ifCond .eq 19, 24, 0, 0) := rfl
theorem f237_8 : fetch 237 8 = some (.iload_n 2, 0, 0, 0) := rfl
theorem f237_9 : fetch 237 9 = some (.invokestatic 335, 188, 1, 1) := rfl
theorem f237_12 : fetch 237 12 = some (.ifCond .eq 12, 24, 0, 0) := rfl
theorem f237_15 : fetch 237 15 = some (.iload_n 3, 0, 0, 0) := rfl
theorem f237_16 : fetch 237 16 = some (.iconst 0, 0, 0, 0) := rfl
theorem f237_17 : fetch 237 17 = some (.iconst 1, 0, 0, 0) := rfl
theorem f237_18 : fetch 237 18 = some (.invokestatic 240, 187, 3, 1) := rfl
theorem f237_21 : fetch 237 21 = some (.ifCond .ne 6, 27, 0, 0) := rfl
theorem f237_24 : fetch 237 24 = some (.bipush (-2), 0, 0, 0) := rfl
theorem f237_26 : fetch 237 26 = some (.ireturn, 0, 0, 0) := rfl
theorem f237_27 : fetch 237 27 = some (.iload_n 3, 0, 0, 0) := rfl
theorem f237_28 : fetch 237 28 = some (.iconst 1, 0, 0, 0) := rfl
theorem f237_29 : fetch 237 29 = some (.if_icmp .ne 12, 41, 0, 0) := rfl
theorem f237_32 : fetch 237 32 = some (.aload_n 0, 0, 0, 0) := rfl
theorem f237_33 : fetch 237 33 = some (.iload_n 1, 0, 0, 0) := rfl
theorem f237_34 : fetch 237 34 = some (.iload_n 2, 0, 0, 0) := rfl
theorem f237_35 : fetch 237 35 = some (.invokevirtual 367, 236, 2, 0) := rfl
theorem f237_38 : fetch 237 38 = some (.goto 17, 55, 0, 0) := rfl
theorem f237_41 : fetch 237 41 = some (.aload_n 0, 0, 0, 0) := rfl
theorem f237_42 : fetch 237 42 = some (.iload_n 1, 0, 0, 0) := rfl
theorem f237_43 : fetch 237 43 = some (.iload_n 2, 0, 0, 0) := rfl
theorem f237_44 : fetch 237 44 = some (.invokevirtual 370, 235, 2, 0) := rfl
theorem f237_47 : fetch 237 47 = some (.ifCond .eq 7, 54, 0, 0) := rfl
theorem f237_50 : fetch 237 50 = some (.iconst 1, 0, 0, 0) := rfl
theorem f237_51 : fetch 237 51 = some (.goto 4, 55, 0, 0) := rfl
theorem f237_54 : fetch 237 54 = some (.iconst 0, 0, 0, 0) := rfl
theorem f237_55 : fetch 237 55 = some (.ireturn, 0, 0, 0) := rfl
set_option maxRecDepth 100000 in
set_option maxHeartbeats 4000000 in
theorem p237_ok (d : Nat) (F : Nat) (h : HS) (w : WF h) (a0 : Int32) (a1 : Int32) (a2 : Int32) (r : Int32) (hp : p237 F h a0 a1 a2 = some r) : ex (d + 3) 237 (ent 237 [.ref (86), .int (a0), .int (a1), .int (a2)] h) = some (some (.int (r)), h) := by
  rw [show ent 237 [.ref (86), .int (a0), .int (a1), .int (a2)] h = (0, [some (.ref (86)), some (.int (a0)), some (.int (a1)), some (.int (a2))], [], h) from by  rfl]
  refine ex_weak (ls := [some (.ref (86)), some (.int (a0)), some (.int (a1)), some (.int (a2))]) (le2_ok ⟨Or.inr rfl, Or.inr rfl, Or.inr rfl, Or.inr rfl, trivial⟩) ?_
  unfold p237 at hp
  refine e_aload_n f237_0 rfl ?_
  refine e_iload_n f237_1 rfl ?_
  obtain ⟨r1, hr2, hp⟩ := bind_some hp
  try dsimp only at hp
  refine e_callV (st := []) (o := 86) (as := [.int (a0)]) f237_2 (by decide) rfl rfl (Nat.le_of_ble_eq_true rfl) (WF.t w 86 (by decide)) (Nat.le_of_ble_eq_true rfl) (p220_ok (d + 1) (h) w (a0) r1 hr2) ?_
  show ex _ 237 (5, [some (.ref (86)), some (.int (a0)), some (.int (a1)), some (.int (a2))], [.int (r1)], h) = _
  by_cases hc3 : (r1) = (0 : Int32)
  · rw [if_pos hc3] at hp
    refine e_if_eq_t f237_5 hc3 ?_
    refine e_bipush (v := -2) f237_24 (by decide) ?_
    have hp := Option.some.inj hp
    subst hp
    exact e_ireturn f237_26 (Or.inl rfl)
  · rw [if_neg hc3] at hp
    refine e_if_eq_f f237_5 hc3 ?_
    refine e_iload_n f237_8 rfl ?_
    obtain ⟨r4, hr5, hp⟩ := bind_some hp
    try dsimp only at hp
    refine e_callS (st := []) (as := [.int (a1)]) f237_9 (by decide) rfl rfl (Nat.le_of_ble_eq_true rfl) (Nat.le_of_ble_eq_true rfl) (p188_ok (d + 1) (h) w (a1) r4 hr5) ?_
    show ex _ 237 (12, [some (.ref (86)), some (.int (a0)), some (.int (a1)), some (.int (a2))], [.int (r4)], h) = _
    by_cases hc6 : (r4) = (0 : Int32)
    · rw [if_pos hc6] at hp
      refine e_if_eq_t f237_12 hc6 ?_
      refine e_bipush (v := -2) f237_24 (by decide) ?_
      have hp := Option.some.inj hp
      subst hp
      exact e_ireturn f237_26 (Or.inl rfl)
    · rw [if_neg hc6] at hp
      refine e_if_eq_f f237_12 hc6 ?_
      refine e_iload_n f237_15 rfl ?_
      refine e_iconst (v := 0) f237_16 (by decide) ?_
      refine e_iconst (v := 1) f237_17 (by decide) ?_
      obtain ⟨r7, hr8, hp⟩ := bind_some hp
      try dsimp only at hp
      refine e_callS (st := []) (as := [.int (a2), .int (0), .int (1)]) f237_18 (by decide) rfl rfl (Nat.le_of_ble_eq_true rfl) (Nat.le_of_ble_eq_true rfl) (p187_ok (d + 2) (h) w (a2) (0) (1) r7 hr8) ?_
      show ex _ 237 (21, [some (.ref (86)), some (.int (a0)), some (.int (a1)), some (.int (a2))], [.int (r7)], h) = _
      by_cases hc9 : (r7) = (0 : Int32)
      · rw [if_pos hc9] at hp
        refine e_if_ne_f f237_21 hc9 ?_
        refine e_bipush (v := -2) f237_24 (by decide) ?_
        have hp := Option.some.inj hp
        subst hp
        exact e_ireturn f237_26 (Or.inl rfl)
      · rw [if_neg hc9] at hp
        refine e_if_ne_t f237_21 hc9 ?_
        refine e_iload_n f237_27 rfl ?_
        refine e_iconst (v := 1) f237_28 (by decide) ?_
        by_cases hc10 : (a2) = ((1) : Int32)
        · rw [if_pos hc10] at hp
          refine e_icmp_ne_f f237_29 hc10 ?_
          refine e_aload_n f237_32 rfl ?_
          refine e_iload_n f237_33 rfl ?_
          refine e_iload_n f237_34 rfl ?_
          obtain ⟨r11, hr12, hp⟩ := bind_some hp
          try dsimp only at hp
          refine e_callV (st := []) (o := 86) (as := [.int (a0), .int (a1)]) f237_35 (by decide) rfl rfl (Nat.le_of_ble_eq_true rfl) (WF.t w 86 (by decide)) (Nat.le_of_ble_eq_true rfl) (p236_ok (d + 1) F (h) w (a0) (a1) r11 hr12) ?_
          show ex _ 237 (38, [some (.ref (86)), some (.int (a0)), some (.int (a1)), some (.int (a2))], [.int (r11)], h) = _
          refine e_goto f237_38 ?_
          have hp := Option.some.inj hp
          subst hp
          exact e_ireturn f237_55 (Or.inl rfl)
        · rw [if_neg hc10] at hp
          refine e_icmp_ne_t f237_29 hc10 ?_
          refine e_aload_n f237_41 rfl ?_
          refine e_iload_n f237_42 rfl ?_
          refine e_iload_n f237_43 rfl ?_
          obtain ⟨r13, hr14, hp⟩ := bind_some hp
          try dsimp only at hp
          refine e_callV (st := []) (o := 86) (as := [.int (a0), .int (a1)]) f237_44 (by decide) rfl rfl (Nat.le_of_ble_eq_true rfl) (WF.t w 86 (by decide)) (Nat.le_of_ble_eq_true rfl) (p235_ok d F (h) w (a0) (a1) r13 hr14) ?_
          show ex _ 237 (47, [some (.ref (86)), some (.int (a0)), some (.int (a1)), some (.int (a2))], [.int (r13)], h) = _
          by_cases hc15 : (r13) = (0 : Int32)
          · rw [if_pos hc15] at hp
            refine e_if_eq_t f237_47 hc15 ?_
            refine e_iconst (v := 0) f237_54 (by decide) ?_
            have hp := Option.some.inj hp
            subst hp
            exact e_ireturn f237_55 (Or.inl rfl)
          · rw [if_neg hc15] at hp
            refine e_if_eq_f f237_47 hc15 ?_
            refine e_iconst (v := 1) f237_50 (by decide) ?_
            refine e_goto f237_51 ?_
            have hp := Option.some.inj hp
            subst hp
            exact e_ireturn f237_55 (Or.inl rfl)
theorem f238_0 : fetch 238 0 = some (.iload_n 1, 0, 0, 0) := rfl
theorem f238_1 : fetch 238 1 = some (.iconst 0, 0, 0, 0) := rfl
theorem f238_2 : fetch 238 2 = some (.bipush 31, 0, 0, 0) := rfl
theorem f238_4 : fetch 238 4 = some (.invokestatic 240, 187, 3, 1) := rfl
theorem f238_7 : fetch 238 7 = some (.ifCond .eq 14, 21, 0, 0) := rfl
theorem f238_10 : fetch 238 10 = some (.iload_n 2, 0, 0, 0) := rfl
theorem f238_11 : fetch 238 11 = some (.iconst 0, 0, 0, 0) := rfl
theorem f238_12 : fetch 238 12 = some (.sipush 999, 0, 0, 0) := rfl
theorem f238_15 : fetch 238 15 = some (.invokestatic 240, 187, 3, 1) := rfl
theorem f238_18 : fetch 238 18 = some (.ifCond .ne 5, 23, 0, 0) := rfl
theorem f238_21 : fetch 238 21 = some (.iconst (-1), 0, 0, 0) := rfl
theorem f238_22 : fetch 238 22 = some (.ireturn, 0, 0, 0) := rfl
theorem f238_23 : fetch 238 23 = some (.aload_n 0, 0, 0, 0) := rfl
theorem f238_24 : fetch 238 24 = some (.getfield 79, 12, 35, 2) := rfl
theorem f238_27 : fetch 238 27 = some (.iload_n 1, 0, 0, 0) := rfl
theorem f238_28 : fetch 238 28 = some (.iaload, 0, 0, 0) := rfl
theorem f238_29 : fetch 238 29 = some (.istore_n 3, 0, 0, 0) := rfl
theorem f238_30 : fetch 238 30 = some (.aload_n 0, 0, 0, 0) := rfl
theorem f238_31 : fetch 238 31 = some (.getfield 79, 12, 35, 2) := rfl
theorem f238_34 : fetch 238 34 = some (.iload_n 1, 0, 0, 0) := rfl
theorem f238_35 : fetch 238 35 = some (.iload_n 2, 0, 0, 0) := rfl
theorem f238_36 : fetch 238 36 = some (.iastore, 0, 0, 0) := rfl
theorem f238_37 : fetch 238 37 = some (.iload_n 3, 0, 0, 0) := rfl
theorem f238_38 : fetch 238 38 = some (.ireturn, 0, 0, 0) := rfl
set_option maxRecDepth 100000 in
set_option maxHeartbeats 4000000 in
theorem p238_ok (d : Nat) (h : HS) (w : WF h) (a0 : Int32) (a1 : Int32) (r : Int32 × HS) (hp : p238 h a0 a1 = some r) : ex (d + 1) 238 (ent 238 [.ref (86), .int (a0), .int (a1)] h) = some (some (.int (r.1)), r.2) := by
  rw [show ent 238 [.ref (86), .int (a0), .int (a1)] h = (0, [some (.ref (86)), some (.int (a0)), some (.int (a1)), none], [], h) from by  rfl]
  refine ex_weak (ls := [some (.ref (86)), some (.int (a0)), some (.int (a1)), none]) (le2_ok ⟨Or.inr rfl, Or.inr rfl, Or.inr rfl, Or.inr rfl, trivial⟩) ?_
  unfold p238 at hp
  refine e_iload_n f238_0 rfl ?_
  refine e_iconst (v := 0) f238_1 (by decide) ?_
  refine e_bipush (v := 31) f238_2 (by decide) ?_
  obtain ⟨r1, hr2, hp⟩ := bind_some hp
  try dsimp only at hp
  refine e_callS (st := []) (as := [.int (a0), .int (0), .int (31)]) f238_4 (by decide) rfl rfl (Nat.le_of_ble_eq_true rfl) (Nat.le_of_ble_eq_true rfl) (p187_ok d (h) w (a0) (0) (31) r1 hr2) ?_
  show ex _ 238 (7, [some (.ref (86)), some (.int (a0)), some (.int (a1)), none], [.int (r1)], h) = _
  by_cases hc3 : (r1) = (0 : Int32)
  · rw [if_pos hc3] at hp
    refine e_if_eq_t f238_7 hc3 ?_
    refine e_iconst (v := -1) f238_21 (by decide) ?_
    have hp := Option.some.inj hp
    subst hp
    exact e_ireturn f238_22 (Or.inl rfl)
  · rw [if_neg hc3] at hp
    refine e_if_eq_f f238_7 hc3 ?_
    refine e_iload_n f238_10 rfl ?_
    refine e_iconst (v := 0) f238_11 (by decide) ?_
    refine e_sipush (v := 999) f238_12 (by decide) ?_
    obtain ⟨r4, hr5, hp⟩ := bind_some hp
    try dsimp only at hp
    refine e_callS (st := []) (as := [.int (a1), .int (0), .int (999)]) f238_15 (by decide) rfl rfl (Nat.le_of_ble_eq_true rfl) (Nat.le_of_ble_eq_true rfl) (p187_ok d (h) w (a1) (0) (999) r4 hr5) ?_
    show ex _ 238 (18, [some (.ref (86)), some (.int (a0)), some (.int (a1)), none], [.int (r4)], h) = _
    by_cases hc6 : (r4) = (0 : Int32)
    · rw [if_pos hc6] at hp
      refine e_if_ne_f f238_18 hc6 ?_
      refine e_iconst (v := -1) f238_21 (by decide) ?_
      have hp := Option.some.inj hp
      subst hp
      exact e_ireturn f238_22 (Or.inl rfl)
    · rw [if_neg hc6] at hp
      refine e_if_ne_t f238_18 hc6 ?_
      refine e_aload_n f238_23 rfl ?_
      refine e_getR f238_24 (WF.t w 86 (by decide)) rfl (WF.r (q := 110) w 86 35 (by decide)) ?_
      refine e_iload_n f238_27 rfl ?_
      by_cases hg7 : (a0) < (0 : Int32) ∨ 32 ≤ (a0).toNatClampNeg
      · rw [if_pos hg7] at hp; cases hp
      rw [if_neg hg7] at hp
      refine e_iaload f238_28 (Or.inl (WF.t w 110 (by decide))) (WF.n w 110 (by decide)) hg7 ?_
      refine e_istore_n (ls2 := [some (.ref (86)), some (.int (a0)), some (.int (a1)), some (.int (hI (h) (110) (a0).toNatClampNeg))]) f238_29 (Nat.le_of_ble_eq_true rfl) rfl ?_
      refine e_aload_n f238_30 rfl ?_
      refine e_getR f238_31 (WF.t w 86 (by decide)) rfl (WF.r (q := 110) w 86 35 (by decide)) ?_
      refine e_iload_n f238_34 rfl ?_
      refine e_iload_n f238_35 rfl ?_
      by_cases hg8 : (a0) < (0 : Int32) ∨ 32 ≤ (a0).toNatClampNeg
      · rw [if_pos hg8] at hp; cases hp
      rw [if_neg hg8] at hp
      refine e_iastore f238_36 (WF.t w 110 (by decide)) (WF.n w 110 (by decide)) hg8 ?_
      refine e_iload_n f238_37 rfl ?_
      have hp := Option.some.inj hp
      subst hp
      exact e_ireturn f238_38 (Or.inl rfl)
set_option maxRecDepth 100000 in
set_option maxHeartbeats 4000000 in
theorem p238_w (h : HS) (w : WF h) (a0 : Int32) (a1 : Int32) (r : Int32 × HS) (hp : p238 h a0 a1 = some r) : WF r.2 := by
  unfold p238 at hp
  obtain ⟨r1, hr2, hp⟩ := bind_some hp
  try dsimp only at hp
  by_cases hc3 : (r1) = (0 : Int32)
  · rw [if_pos hc3] at hp
    have hp := Option.some.inj hp
    subst hp
    exact (w)
  · rw [if_neg hc3] at hp
    obtain ⟨r4, hr5, hp⟩ := bind_some hp
    try dsimp only at hp
    by_cases hc6 : (r4) = (0 : Int32)
    · rw [if_pos hc6] at hp
      have hp := Option.some.inj hp
      subst hp
      exact (w)
    · rw [if_neg hc6] at hp
      by_cases hg7 : (a0) < (0 : Int32) ∨ 32 ≤ (a0).toNatClampNeg
      · rw [if_pos hg7] at hp; cases hp
      rw [if_neg hg7] at hp
      by_cases hg8 : (a0) < (0 : Int32) ∨ 32 ≤ (a0).toNatClampNeg
      · rw [if_pos hg8] at hp; cases hp
      rw [if_neg hg8] at hp
      have hp := Option.some.inj hp
      subst hp
      exact (w)
theorem f239_0 : fetch 239 0 = some (.aload_n 0, 0, 0, 0) := rfl
theorem f239_1 : fetch 239 1 = some (.getfield 307, 12, 33, 0) := rfl
theorem f239_4 : fetch 239 4 = some (.sipush 200, 0, 0, 0) := rfl
theorem f239_7 : fetch 239 7 = some (.if_icmp .eq 38, 45, 0, 0) := rfl
theorem f239_10 : fetch 239 10 = some (.aload_n 0, 0, 0, 0) := rfl
theorem f239_11 : fetch 239 11 = some (.iload_n 1, 0, 0, 0) := rfl
theorem f239_12 : fetch 239 12 = some (.invokevirtual 301, 206, 1, 0) := rfl
theorem f239_15 : fetch 239 15 = some (.ifCond .eq 30, 45, 0, 0) := rfl
theorem f239_18 : fetch 239 18 = some (.aload_n 0, 0, 0, 0) := rfl
theorem f239_19 : fetch 239 19 = some (.iload_n 2, 0, 0, 0) := rfl
theorem f239_20 : fetch 239 20 = some (.invokevirtual 329, 218, 1, 0) := rfl
theorem f239_23 : fetch 239 23 = some (.ifCond .eq 22, 45, 0, 0) := rfl
theorem f239_26 : fetch 239 26 = some (.iload_n 3, 0, 0, 0) := rfl
theorem f239_27 : fetch 239 27 = some (.iconst 1, 0, 0, 0) := rfl
theorem f239_28 : fetch 239 28 = some (.sipush 9999, 0, 0, 0) := rfl
theorem f239_31 : fetch 239 31 = some (.invokestatic 240, 187, 3, 1) := rfl
theorem f239_34 : fetch 239 34 = some (.ifCond .eq 11, 45, 0, 0) := rfl
theorem f239_37 : fetch 239 37 = some (.iload 4, 0, 0, 0) := rfl
theorem f239_39 : fetch 239 39 = some (.invokestatic 323, 189, 1, 1) := rfl
theorem f239_42 : fetch 239 42 = some (.ifCond .ne 5, 47, 0, 0) := rfl
theorem f239_45 : fetch 239 45 = some (.iconst (-1), 0, 0, 0) := rfl
theorem f239_46 : fetch 239 46 = some (.ireturn, 0, 0, 0) := rfl
theorem f239_47 : fetch 239 47 = some (.aload_n 0, 0, 0, 0) := rfl
theorem f239_48 : fetch 239 48 = some (.getfield 109, 12, 45, 2) := rfl
theorem f239_51 : fetch 239 51 = some (.aload_n 0, 0, 0, 0) := rfl
theorem f239_52 : fetch 239 52 = some (.getfield 307, 12, 33, 0) := rfl
theorem f239_55 : fetch 239 55 = some (.iload_n 1, 0, 0, 0) := rfl
theorem f239_56 : fetch 239 56 = some (.iastore, 0, 0, 0) := rfl
theorem f239_57 : fetch 239 57 = some (.aload_n 0, 0, 0, 0) := rfl
theorem f239_58 : fetch 239 58 = some (.getfield 112, 12, 46, 2) := rfl
theorem f239_61 : fetch 239 61 = some (.aload_n 0, 0, 0, 0) := rfl
theorem f239_62 : fetch 239 62 = some (.getfield 307, 12, 33, 0) := rfl
theorem f239_65 : fetch 239 65 = some (.iload_n 2, 0, 0, 0) := rfl
theorem f239_66 : fetch 239 66 = some (.iastore, 0, 0, 0) := rfl
theorem f239_67 : fetch 239 67 = some (.aload_n 0, 0, 0, 0) := rfl
theorem f239_68 : fetch 239 68 = some (.getfield 115, 12, 47, 2) := rfl
theorem f239_71 : fetch 239 71 = some (.aload_n 0, 0, 0, 0) := rfl
theorem f239_72 : fetch 239 72 = some (.getfield 307, 12, 33, 0) := rfl
theorem f239_75 : fetch 239 75 = some (.iload_n 3, 0, 0, 0) := rfl
theorem f239_76 : fetch 239 76 = some (.iastore, 0, 0, 0) := rfl
theorem f239_77 : fetch 239 77 = some (.aload_n 0, 0, 0, 0) := rfl
theorem f239_78 : fetch 239 78 = some (.getfield 118, 12, 48, 2) := rfl
theorem f239_81 : fetch 239 81 = some (.aload_n 0, 0, 0, 0) := rfl
theorem f239_82 : fetch 239 82 = some (.getfield 307, 12, 33, 0) := rfl
theorem f239_85 : fetch 239 85 = some (.aload_n 0, 0, 0, 0) := rfl
theorem f239_86 : fetch 239 86 = some (.getfield 244, 12, 1, 0) := rfl
theorem f239_89 : fetch 239 89 = some (.iastore, 0, 0, 0) := rfl
theorem f239_90 : fetch 239 90 = some (.aload_n 0, 0, 0, 0) := rfl
theorem f239_91 : fetch 239 91 = some (.getfield 121, 12, 49, 2) := rfl
theorem f239_94 : fetch 239 94 = some (.aload_n 0, 0, 0, 0) := rfl
theorem f239_95 : fetch 239 95 = some (.getfield 307, 12, 33, 0) := rfl
theorem f239_98 : fetch 239 98 = some (.ldc_w 290, 0, 0, 100000) := rfl
theorem f239_101 : fetch 239 101 = some (.iastore, 0, 0, 0) := rfl
theorem f239_102 : fetch 239 102 = some (.aload_n 0, 0, 0, 0) := rfl
theorem f239_103 : fetch 239 103 = some (.dup, 0, 0, 0) := rfl
theorem f239_104 : fetch 239 104 = some (.getfield 307, 12, 33, 0) := rfl
theorem f239_107 : fetch 239 107 = some (.iconst 1, 0, 0, 0) := rfl
theorem f239_108 : fetch 239 108 = some (.iadd, 0, 0, 0) := rfl
theorem f239_109 : fetch 239 109 = some (.putfield 307, 12, 33, 0) := rfl
theorem f239_112 : fetch 239 112 = some (.aload_n 0, 0, 0, 0) := rfl
theorem f239_113 : fetch 239 113 = some (.getfield 307, 12, 33, 0) := rfl
theorem f239_116 : fetch 239 116 = some (.iconst 1, 0, 0, 0) := rfl
theorem f239_117 : fetch 239 117 = some (.isub, 0, 0, 0) := rfl
theorem f239_118 : fetch 239 118 = some (.ireturn, 0, 0, 0) := rfl
set_option maxRecDepth 100000 in
set_option maxHeartbeats 4000000 in
theorem p239_ok (d : Nat) (h : HS) (w : WF h) (a0 : Int32) (a1 : Int32) (a2 : Int32) (a3 : Int32) (r : Int32 × HS) (hp : p239 h a0 a1 a2 a3 = some r) : ex (d + 3) 239 (ent 239 [.ref (86), .int (a0), .int (a1), .int (a2), .int (a3)] h) = some (some (.int (r.1)), r.2) := by
  rw [show ent 239 [.ref (86), .int (a0), .int (a1), .int (a2), .int (a3)] h = (0, [some (.ref (86)), some (.int (a0)), some (.int (a1)), some (.int (a2)), some (.int (a3))], [], h) from by  rfl]
  refine ex_weak (ls := [some (.ref (86)), some (.int (a0)), some (.int (a1)), some (.int (a2)), some (.int (a3))]) (le2_ok ⟨Or.inr rfl, Or.inr rfl, Or.inr rfl, Or.inr rfl, Or.inr rfl, trivial⟩) ?_
  unfold p239 at hp
  refine e_aload_n f239_0 rfl ?_
  refine e_getI f239_1 (WF.t w 86 (by decide)) (by decide) ?_
  refine e_sipush (v := 200) f239_4 (by decide) ?_
  by_cases hc1 : (hI (h) (86) 33) = ((200) : Int32)
  · rw [if_pos hc1] at hp
    refine e_icmp_eq_t f239_7 hc1 ?_
    refine e_iconst (v := -1) f239_45 (by decide) ?_
    have hp := Option.some.inj hp
    subst hp
    exact e_ireturn f239_46 (Or.inl rfl)
  · rw [if_neg hc1] at hp
    refine e_icmp_eq_f f239_7 hc1 ?_
    refine e_aload_n f239_10 rfl ?_
    refine e_iload_n f239_11 rfl ?_
    obtain ⟨r2, hr3, hp⟩ := bind_some hp
    try dsimp only at hp
    refine e_callV (st := []) (o := 86) (as := [.int (a0)]) f239_12 (by decide) rfl rfl (Nat.le_of_ble_eq_true rfl) (WF.t w 86 (by decide)) (Nat.le_of_ble_eq_true rfl) (p206_ok d (h) w (a0) r2 hr3) ?_
    show ex _ 239 (15, [some (.ref (86)), some (.int (a0)), some (.int (a1)), some (.int (a2)), some (.int (a3))], [.int (r2)], h) = _
    by_cases hc4 : (r2) = (0 : Int32)
    · rw [if_pos hc4] at hp
      refine e_if_eq_t f239_15 hc4 ?_
      refine e_iconst (v := -1) f239_45 (by decide) ?_
      have hp := Option.some.inj hp
      subst hp
      exact e_ireturn f239_46 (Or.inl rfl)
    · rw [if_neg hc4] at hp
      refine e_if_eq_f f239_15 hc4 ?_
      refine e_aload_n f239_18 rfl ?_
      refine e_iload_n f239_19 rfl ?_
      obtain ⟨r5, hr6, hp⟩ := bind_some hp
      try dsimp only at hp
      refine e_callV (st := []) (o := 86) (as := [.int (a1)]) f239_20 (by decide) rfl rfl (Nat.le_of_ble_eq_true rfl) (WF.t w 86 (by decide)) (Nat.le_of_ble_eq_true rfl) (p218_ok (d + 1) (h) w (a1) r5 hr6) ?_
      show ex _ 239 (23, [some (.ref (86)), some (.int (a0)), some (.int (a1)), some (.int (a2)), some (.int (a3))], [.int (r5)], h) = _
      by_cases hc7 : (r5) = (0 : Int32)
      · rw [if_pos hc7] at hp
        refine e_if_eq_t f239_23 hc7 ?_
        refine e_iconst (v := -1) f239_45 (by decide) ?_
        have hp := Option.some.inj hp
        subst hp
        exact e_ireturn f239_46 (Or.inl rfl)
      · rw [if_neg hc7] at hp
        refine e_if_eq_f f239_23 hc7 ?_
        refine e_iload_n f239_26 rfl ?_
        refine e_iconst (v := 1) f239_27 (by decide) ?_
        refine e_sipush (v := 9999) f239_28 (by decide) ?_
        obtain ⟨r8, hr9, hp⟩ := bind_some hp
        try dsimp only at hp
        refine e_callS (st := []) (as := [.int (a2), .int (1), .int (9999)]) f239_31 (by decide) rfl rfl (Nat.le_of_ble_eq_true rfl) (Nat.le_of_ble_eq_true rfl) (p187_ok (d + 2) (h) w (a2) (1) (9999) r8 hr9) ?_
        show ex _ 239 (34, [some (.ref (86)), some (.int (a0)), some (.int (a1)), some (.int (a2)), some (.int (a3))], [.int (r8)], h) = _
        by_cases hc10 : (r8) = (0 : Int32)
        · rw [if_pos hc10] at hp
          refine e_if_eq_t f239_34 hc10 ?_
          refine e_iconst (v := -1) f239_45 (by decide) ?_
          have hp := Option.some.inj hp
          subst hp
          exact e_ireturn f239_46 (Or.inl rfl)
        · rw [if_neg hc10] at hp
          refine e_if_eq_f f239_34 hc10 ?_
          refine e_iload f239_37 rfl ?_
          obtain ⟨r11, hr12, hp⟩ := bind_some hp
          try dsimp only at hp
          refine e_callS (st := []) (as := [.int (a3)]) f239_39 (by decide) rfl rfl (Nat.le_of_ble_eq_true rfl) (Nat.le_of_ble_eq_true rfl) (p189_ok (d + 1) (h) w (a3) r11 hr12) ?_
          show ex _ 239 (42, [some (.ref (86)), some (.int (a0)), some (.int (a1)), some (.int (a2)), some (.int (a3))], [.int (r11)], h) = _
          by_cases hc13 : (r11) = (0 : Int32)
          · rw [if_pos hc13] at hp
            refine e_if_ne_f f239_42 hc13 ?_
            refine e_iconst (v := -1) f239_45 (by decide) ?_
            have hp := Option.some.inj hp
            subst hp
            exact e_ireturn f239_46 (Or.inl rfl)
          · rw [if_neg hc13] at hp
            refine e_if_ne_t f239_42 hc13 ?_
            refine e_aload_n f239_47 rfl ?_
            refine e_getR f239_48 (WF.t w 86 (by decide)) rfl (WF.r (q := 120) w 86 45 (by decide)) ?_
            refine e_aload_n f239_51 rfl ?_
            refine e_getI f239_52 (WF.t w 86 (by decide)) (by decide) ?_
            refine e_iload_n f239_55 rfl ?_
            by_cases hg14 : (hI (h) (86) 33) < (0 : Int32) ∨ 200 ≤ (hI (h) (86) 33).toNatClampNeg
            · rw [if_pos hg14] at hp; cases hp
            rw [if_neg hg14] at hp
            refine e_iastore f239_56 (WF.t w 120 (by decide)) (WF.n w 120 (by decide)) hg14 ?_
            refine e_aload_n f239_57 rfl ?_
            refine e_getR f239_58 (WF.t w 86 (by decide)) rfl (WF.r (q := 121) w 86 46 (by decide)) ?_
            refine e_aload_n f239_61 rfl ?_
            refine e_getI f239_62 (WF.t w 86 (by decide)) (by decide) ?_
            refine e_iload_n f239_65 rfl ?_
            by_cases hg15 : (hI (hsI (h) (120) (hI (h) (86) 33).toNatClampNeg (a0)) (86) 33) < (0 : Int32) ∨ 200 ≤ (hI (hsI (h) (120) (hI (h) (86) 33).toNatClampNeg (a0)) (86) 33).toNatClampNeg
            · rw [if_pos hg15] at hp; cases hp
            rw [if_neg hg15] at hp
            refine e_iastore f239_66 (WF.t w 121 (by decide)) (WF.n w 121 (by decide)) hg15 ?_
            obtain ⟨h16, e17, hp⟩ := bind_some hp
            try dsimp only at hp
            have e17 := Option.some.inj e17
            have w18 : WF h16 := e17 ▸ w
            rw [e17]
            refine e_aload_n f239_67 rfl ?_
            refine e_getR f239_68 (WF.t w18 86 (by decide)) rfl (WF.r (q := 122) w18 86 47 (by decide)) ?_
            refine e_aload_n f239_71 rfl ?_
            refine e_getI f239_72 (WF.t w18 86 (by decide)) (by decide) ?_
            refine e_iload_n f239_75 rfl ?_
            by_cases hg19 : (hI (h16) (86) 33) < (0 : Int32) ∨ 200 ≤ (hI (h16) (86) 33).toNatClampNeg
            · rw [if_pos hg19] at hp; cases hp
            rw [if_neg hg19] at hp
            refine e_iastore f239_76 (WF.t w18 122 (by decide)) (WF.n w18 122 (by decide)) hg19 ?_
            refine e_aload_n f239_77 rfl ?_
            refine e_getR f239_78 (WF.t w18 86 (by decide)) rfl (WF.r (q := 123) w18 86 48 (by decide)) ?_
            refine e_aload_n f239_81 rfl ?_
            refine e_getI f239_82 (WF.t w18 86 (by decide)) (by decide) ?_
            refine e_aload_n f239_85 rfl ?_
            refine e_getI f239_86 (WF.t w18 86 (by decide)) (by decide) ?_
            by_cases hg20 : (hI (hsI (h16) (122) (hI (h16) (86) 33).toNatClampNeg (a2)) (86) 33) < (0 : Int32) ∨ 200 ≤ (hI (hsI (h16) (122) (hI (h16) (86) 33).toNatClampNeg (a2)) (86) 33).toNatClampNeg
            · rw [if_pos hg20] at hp; cases hp
            rw [if_neg hg20] at hp
            refine e_iastore f239_89 (WF.t w18 123 (by decide)) (WF.n w18 123 (by decide)) hg20 ?_
            obtain ⟨h21, e22, hp⟩ := bind_some hp
            try dsimp only at hp
            have e22 := Option.some.inj e22
            have w23 : WF h21 := e22 ▸ w18
            rw [e22]
            refine e_aload_n f239_90 rfl ?_
            refine e_getR f239_91 (WF.t w23 86 (by decide)) rfl (WF.r (q := 124) w23 86 49 (by decide)) ?_
            refine e_aload_n f239_94 rfl ?_
            refine e_getI f239_95 (WF.t w23 86 (by decide)) (by decide) ?_
            refine e_ldcw (v := 100000) f239_98 (by decide) (by decide) ?_
            by_cases hg24 : (hI (h21) (86) 33) < (0 : Int32) ∨ 200 ≤ (hI (h21) (86) 33).toNatClampNeg
            · rw [if_pos hg24] at hp; cases hp
            rw [if_neg hg24] at hp
            refine e_iastore f239_101 (WF.t w23 124 (by decide)) (WF.n w23 124 (by decide)) hg24 ?_
            refine e_aload_n f239_102 rfl ?_
            refine e_dup f239_103 rfl ?_
            refine e_getI f239_104 (WF.t w23 86 (by decide)) (by decide) ?_
            refine e_iconst (v := 1) f239_107 (by decide) ?_
            refine e_iadd f239_108 ?_
            refine e_putI f239_109 (WF.t w23 86 (by decide)) rfl ?_
            obtain ⟨h25, e26, hp⟩ := bind_some hp
            try dsimp only at hp
            have e26 := Option.some.inj e26
            have w27 : WF h25 := e26 ▸ w23
            rw [e26]
            refine e_aload_n f239_112 rfl ?_
            refine e_getI f239_113 (WF.t w27 86 (by decide)) (by decide) ?_
            refine e_iconst (v := 1) f239_116 (by decide) ?_
            refine e_isub f239_117 ?_
            have hp := Option.some.inj hp
            subst hp
            exact e_ireturn f239_118 (Or.inl rfl)
set_option maxRecDepth 100000 in
set_option maxHeartbeats 4000000 in
theorem p239_w (h : HS) (w : WF h) (a0 : Int32) (a1 : Int32) (a2 : Int32) (a3 : Int32) (r : Int32 × HS) (hp : p239 h a0 a1 a2 a3 = some r) : WF r.2 := by
  unfold p239 at hp
  by_cases hc1 : (hI (h) (86) 33) = ((200) : Int32)
  · rw [if_pos hc1] at hp
    have hp := Option.some.inj hp
    subst hp
    exact (w)
  · rw [if_neg hc1] at hp
    obtain ⟨r2, hr3, hp⟩ := bind_some hp
    try dsimp only at hp
    by_cases hc4 : (r2) = (0 : Int32)
    · rw [if_pos hc4] at hp
      have hp := Option.some.inj hp
      subst hp
      exact (w)
    · rw [if_neg hc4] at hp
      obtain ⟨r5, hr6, hp⟩ := bind_some hp
      try dsimp only at hp
      by_cases hc7 : (r5) = (0 : Int32)
      · rw [if_pos hc7] at hp
        have hp := Option.some.inj hp
        subst hp
        exact (w)
      · rw [if_neg hc7] at hp
        obtain ⟨r8, hr9, hp⟩ := bind_some hp
        try dsimp only at hp
        by_cases hc10 : (r8) = (0 : Int32)
        · rw [if_pos hc10] at hp
          have hp := Option.some.inj hp
          subst hp
          exact (w)
        · rw [if_neg hc10] at hp
          obtain ⟨r11, hr12, hp⟩ := bind_some hp
          try dsimp only at hp
          by_cases hc13 : (r11) = (0 : Int32)
          · rw [if_pos hc13] at hp
            have hp := Option.some.inj hp
            subst hp
            exact (w)
          · rw [if_neg hc13] at hp
            by_cases hg14 : (hI (h) (86) 33) < (0 : Int32) ∨ 200 ≤ (hI (h) (86) 33).toNatClampNeg
            · rw [if_pos hg14] at hp; cases hp
            rw [if_neg hg14] at hp
            by_cases hg15 : (hI (hsI (h) (120) (hI (h) (86) 33).toNatClampNeg (a0)) (86) 33) < (0 : Int32) ∨ 200 ≤ (hI (hsI (h) (120) (hI (h) (86) 33).toNatClampNeg (a0)) (86) 33).toNatClampNeg
            · rw [if_pos hg15] at hp; cases hp
            rw [if_neg hg15] at hp
            obtain ⟨h16, e17, hp⟩ := bind_some hp
            try dsimp only at hp
            have e17 := Option.some.inj e17
            have w18 : WF h16 := e17 ▸ w
            by_cases hg19 : (hI (h16) (86) 33) < (0 : Int32) ∨ 200 ≤ (hI (h16) (86) 33).toNatClampNeg
            · rw [if_pos hg19] at hp; cases hp
            rw [if_neg hg19] at hp
            by_cases hg20 : (hI (hsI (h16) (122) (hI (h16) (86) 33).toNatClampNeg (a2)) (86) 33) < (0 : Int32) ∨ 200 ≤ (hI (hsI (h16) (122) (hI (h16) (86) 33).toNatClampNeg (a2)) (86) 33).toNatClampNeg
            · rw [if_pos hg20] at hp; cases hp
            rw [if_neg hg20] at hp
            obtain ⟨h21, e22, hp⟩ := bind_some hp
            try dsimp only at hp
            have e22 := Option.some.inj e22
            have w23 : WF h21 := e22 ▸ w18
            by_cases hg24 : (hI (h21) (86) 33) < (0 : Int32) ∨ 200 ≤ (hI (h21) (86) 33).toNatClampNeg
            · rw [if_pos hg24] at hp; cases hp
            rw [if_neg hg24] at hp
            obtain ⟨h25, e26, hp⟩ := bind_some hp
            try dsimp only at hp
            have e26 := Option.some.inj e26
            have w27 : WF h25 := e26 ▸ w23
            have hp := Option.some.inj hp
            subst hp
            exact (w27)
theorem f240_0 : fetch 240 0 = some (.iload_n 1, 0, 0, 0) := rfl
theorem f240_1 : fetch 240 1 = some (.iconst 0, 0, 0, 0) := rfl
theorem f240_2 : fetch 240 2 = some (.bipush 9, 0, 0, 0) := rfl
theorem f240_4 : fetch 240 4 = some (.invokestatic 240, 187, 3, 1) := rfl
theorem f240_7 : fetch 240 7 = some (.ifCond .eq 10, 17, 0, 0) := rfl
theorem f240_10 : fetch 240 10 = some (.iload_n 2, 0, 0, 0) := rfl
theorem f240_11 : fetch 240 11 = some (.invokestatic 335, 188, 1, 1) := rfl
theorem f240_14 : fetch 240 14 = some (.ifCond .ne 7, 21, 0, 0) := rfl
theorem f240_17 : fetch 240 17 = some (.ldc_w 373, 0, 0, -2000000000) := rfl
theorem f240_20 : fetch 240 20 = some (.ireturn, 0, 0, 0) := rfl
theorem f240_21 : fetch 240 21 = some (.iconst 0, 0, 0, 0) := rfl
theorem f240_22 : fetch 240 22 = some (.istore_n 3, 0, 0, 0) := rfl
theorem f240_23 : fetch 240 23 = some (.iconst 0, 0, 0, 0) := rfl
theorem f240_24 : fetch 240 24 = some (.istore 4, 0, 0, 0) := rfl
theorem f240_26 : fetch 240 26 = some (.iload 4, 0, 0, 0) := rfl
theorem f240_28 : fetch 240 28 = some (.aload_n 0, 0, 0, 0) := rfl
theorem f240_29 : fetch 240 29 = some (.getfield 307, 12, 33, 0) := rfl
theorem f240_32 : fetch 240 32 = some (.if_icmp .ge 49, 81, 0, 0) := rfl
theorem f240_35 : fetch 240 35 = some (.iload_n 3, 0, 0, 0) := rfl
theorem f240_36 : fetch 240 36 = some (.aload_n 0, 0, 0, 0) := rfl
theorem f240_37 : fetch 240 37 = some (.getfield 76, 12, 34, 2) := rfl
theorem f240_40 : fetch 240 40 = some (.aload_n 0, 0, 0, 0) := rfl
theorem f240_41 : fetch 240 41 = some (.getfield 112, 12, 46, 2) := rfl
theorem f240_44 : fetch 240 44 = some (.iload 4, 0, 0, 0) := rfl
theorem f240_46 : fetch 240 46 = some (.iaload, 0, 0, 0) := rfl
theorem f240_47 : fetch 240 47 = some (.iaload, 0, 0, 0) := rfl
theorem f240_48 : fetch 240 48 = some (.iload_n 1, 0, 0, 0) := rfl
theorem f240_49 : fetch 240 49 = some (.if_icmp .ne 23, 72, 0, 0) := rfl
theorem f240_52 : fetch 240 52 = some (.aload_n 0, 0, 0, 0) := rfl
theorem f240_53 : fetch 240 53 = some (.iload 4, 0, 0, 0) := rfl
theorem f240_55 : fetch 240 55 = some (.iload_n 2, 0, 0, 0) := rfl
theorem f240_56 : fetch 240 56 = some (.invokevirtual 355, 223, 2, 0) := rfl
theorem f240_59 : fetch 240 59 = some (.ifCond .eq 13, 72, 0, 0) := rfl
theorem f240_62 : fetch 240 62 = some (.aload_n 0, 0, 0, 0) := rfl
theorem f240_63 : fetch 240 63 = some (.getfield 115, 12, 47, 2) := rfl
theorem f240_66 : fetch 240 66 = some (.iload 4, 0, 0, 0) := rfl
theorem f240_68 : fetch 240 68 = some (.iaload, 0, 0, 0) := rfl
theorem f240_69 : fetch 240 69 = some (.goto 4, 73, 0, 0) := rfl
theorem f240_72 : fetch 240 72 = some (.iconst 0, 0, 0, 0) := rfl
theorem f240_73 : fetch 240 73 = some (.iadd, 0, 0, 0) := rfl
theorem f240_74 : fetch 240 74 = some (.istore_n 3, 0, 0, 0) := rfl
theorem f240_75 : fetch 240 75 = some (.iinc 4 1, 0, 0, 0) := rfl
theorem f240_78 : fetch 240 78 = some (.goto (-52), 26, 0, 0) := rfl
theorem f240_81 : fetch 240 81 = some (.iconst 0, 0, 0, 0) := rfl
theorem f240_82 : fetch 240 82 = some (.istore 4, 0, 0, 0) := rfl
theorem f240_84 : fetch 240 84 = some (.iload 4, 0, 0, 0) := rfl
theorem f240_86 : fetch 240 86 = some (.aload_n 0, 0, 0, 0) := rfl
theorem f240_87 : fetch 240 87 = some (.getfield 304, 12, 32, 0) := rfl
theorem f240_90 : fetch 240 90 = some (.if_icmp .ge 87, 177, 0, 0) := rfl
theorem f240_93 : fetch 240 93 = some (.aload_n 0, 0, 0, 0) := rfl
theorem f240_94 : fetch 240 94 = some (.getfield 76, 12, 34, 2) := rfl
theorem f240_97 : fetch 240 97 = some (.aload_n 0, 0, 0, 0) := rfl
theorem f240_98 : fetch 240 98 = some (.getfield 85, 12, 37, 2) := rfl
theorem f240_101 : fetch 240 101 = some (.iload 4, 0, 0, 0) := rfl
theorem f240_103 : fetch 240 103 = some (.iaload, 0, 0, 0) := rfl
theorem f240_104 : fetch 240 104 = some (.iaload, 0, 0, 0) := rfl
theorem f240_105 : fetch 240 105 = some (.iload_n 1, 0, 0, 0) := rfl
theorem f240_106 : fetch 240 106 = some (.if_icmp .ne 38, 144, 0, 0) := rfl
theorem f240_109 : fetch 240 109 = some (.aload_n 0, 0, 0, 0) := rfl
theorem f240_110 : fetch 240 110 = some (.iload 4, 0, 0, 0) := rfl
theorem f240_112 : fetch 240 112 = some (.iload_n 2, 0, 0, 0) := rfl
theorem f240_113 : fetch 240 113 = some (.invokevirtual 338, 222, 2, 0) := rfl
theorem f240_116 : fetch 240 116 = some (.ifCond .eq 28, 144, 0, 0) := rfl
theorem f240_119 : fetch 240 119 = some (.aload_n 0, 0, 0, 0) := rfl
theorem f240_120 : fetch 240 120 = some (.iload 4, 0, 0, 0) := rfl
theorem f240_122 : fetch 240 122 = some (.iload_n 2, 0, 0, 0) := rfl
theorem f240_123 : fetch 240 123 = some (.invokevirtual 367, 236, 2, 0) := rfl
theorem f240_126 : fetch 240 126 = some (.iconst (-1), 0, 0, 0) := rfl
theorem f240_127 : fetch 240 127 = some (.if_icmp .ne 17, 144, 0, 0) := rfl
theorem f240_130 : fetch 240 130 = some (.aload_n 0, 0, 0, 0) := rfl
theorem f240_131 : fetch 240 131 = some (.iload 4, 0, 0, 0) := rfl
theorem f240_133 : fetch 240 133 = some (.iload_n 2, 0, 0, 0) := rfl
theorem f240_134 : fetch 240 134 = some (.invokevirtual 370, 235, 2, 0) := rfl
theorem f240_137 : fetch 240 137 = some (.ifCond .ne 7, 144, 0, 0) := rfl
theorem f240_140 : fetch 240 140 = some (.iconst 1, 0, 0, 0) := rfl
theorem f240_141 : fetch 240 141 = some (.goto 4, 145, 0, 0) := rfl
theorem f240_144 : fetch 240 144 = some (.iconst 0, 0, 0, 0) := rfl
theorem f240_145 : fetch 240 145 = some (.istore 5, 0, 0, 0) := rfl
theorem f240_147 : fetch 240 147 = some (.iload_n 3, 0, 0, 0) := rfl
theorem f240_148 : fetch 240 148 = some (.iload 5, 0, 0, 0) := rfl
theorem f240_150 : fetch 240 150 = some (.ifCond .eq 18, 168, 0, 0) := rfl
theorem f240_153 : fetch 240 153 = some (.aload_n 0, 0, 0, 0) := rfl
theorem f240_154 : fetch 240 154 = some (.getfield 79, 12, 35, 2) := rfl
theorem f240_157 : fetch 240 157 = some (.aload_n 0, 0, 0, 0) := rfl
theorem f240_158 : fetch 240 158 = some (.getfield 91, 12, 39, 2) := rfl
theorem f240_161 : fetch 240 161 = some (.iload 4, 0, 0, 0) := rfl
theorem f240_163 : fetch 240 163 = some (.iaload, 0, 0, 0) := rfl
theorem f240_164 : fetch 240 164 = some (.iaload, 0, 0, 0) := rfl
theorem f240_165 : fetch 240 165 = some (.goto 4, 169, 0, 0) := rfl
theorem f240_168 : fetch 240 168 = some (.iconst 0, 0, 0, 0) := rfl
theorem f240_169 : fetch 240 169 = some (.isub, 0, 0, 0) := rfl
theorem f240_170 : fetch 240 170 = some (.istore_n 3, 0, 0, 0) := rfl
theorem f240_171 : fetch 240 171 = some (.iinc 4 1, 0, 0, 0) := rfl
theorem f240_174 : fetch 240 174 = some (.goto (-90), 84, 0, 0) := rfl
theorem f240_177 : fetch 240 177 = some (.iload_n 3, 0, 0, 0) := rfl
theorem f240_178 : fetch 240 178 = some (.ireturn, 0, 0, 0) := rfl
set_option maxRecDepth 100000 in
set_option maxHeartbeats 4000000 in
theorem p240_j169_ok (d : Nat) (F : Nat) (a0 : Int32) (a1 : Int32) (K84 : Int32 → Int32 → Option (Int32)) (h : HS) (w : WF h) (hK84 : ∀ (u3 : Int32) (u4 : Int32) (r : Int32), K84 u3 u4 = some r → ex (d + 3) 240 (84, [some (.ref (86)), some (.int (a0)), some (.int (a1)), some (.int (u3)), some (.int (u4)), none], [], h) = some (some (.int (r)), h)) (v4 : Int32) (s0 : Int32) (s1 : Int32) (r : Int32) (hp : p240_j169 F a0 a1 K84 h v4 s0 s1 = some r) : ex (d + 3) 240 (169, [some (.ref (86)), some (.int (a0)), some (.int (a1)), none, some (.int (v4)), none], [.int (s0), .int (s1)], h) = some (some (.int (r)), h) := by
  unfold p240_j169 at hp
  refine e_isub f240_169 ?_
  refine e_istore_n (ls2 := [some (.ref (86)), some (.int (a0)), some (.int (a1)), some (.int ((s1) - (s0))), some (.int (v4)), none]) f240_170 (Nat.le_of_ble_eq_true rfl) rfl ?_
  refine e_iinc (ls2 := [some (.ref (86)), some (.int (a0)), some (.int (a1)), some (.int ((s1) - (s0))), some (.int ((v4) + 1)), none]) f240_171 (by decide) rfl rfl ?_
  refine e_goto f240_174 ?_
  refine ex_weak (ls := [some (.ref (86)), some (.int (a0)), some (.int (a1)), some (.int ((s1) - (s0))), some (.int ((v4) + 1)), none]) (le2_ok ⟨Or.inr rfl, Or.inr rfl, Or.inr rfl, Or.inr rfl, Or.inr rfl, Or.inl rfl, trivial⟩) ?_
  exact hK84 ((s1) - (s0)) ((v4) + 1) _ hp
set_option maxRecDepth 100000 in
set_option maxHeartbeats 4000000 in
theorem p240_j73_ok (d : Nat) (F : Nat) (a0 : Int32) (a1 : Int32) (K26 : Int32 → Int32 → Option (Int32)) (h : HS) (w : WF h) (hK26 : ∀ (u3 : Int32) (u4 : Int32) (r : Int32), K26 u3 u4 = some r → ex (d + 3) 240 (26, [some (.ref (86)), some (.int (a0)), some (.int (a1)), some (.int (u3)), some (.int (u4)), none], [], h) = some (some (.int (r)), h)) (v4 : Int32) (s0 : Int32) (s1 : Int32) (r : Int32) (hp : p240_j73 F a0 a1 K26 h v4 s0 s1 = some r) : ex (d + 3) 240 (73, [some (.ref (86)), some (.int (a0)), some (.int (a1)), none, some (.int (v4)), none], [.int (s0), .int (s1)], h) = some (some (.int (r)), h) := by
  unfold p240_j73 at hp
  refine e_iadd f240_73 ?_
  refine e_istore_n (ls2 := [some (.ref (86)), some (.int (a0)), some (.int (a1)), some (.int ((s1) + (s0))), some (.int (v4)), none]) f240_74 (Nat.le_of_ble_eq_true rfl) rfl ?_
  refine e_iinc (ls2 := [some (.ref (86)), some (.int (a0)), some (.int (a1)), some (.int ((s1) + (s0))), some (.int ((v4) + 1)), none]) f240_75 (by decide) rfl rfl ?_
  refine e_goto f240_78 ?_
  refine ex_weak (ls := [some (.ref (86)), some (.int (a0)), some (.int (a1)), some (.int ((s1) + (s0))), some (.int ((v4) + 1)), none]) (le2_ok ⟨Or.inr rfl, Or.inr rfl, Or.inr rfl, Or.inr rfl, Or.inr rfl, Or.inl rfl, trivial⟩) ?_
  exact hK26 ((s1) + (s0)) ((v4) + 1) _ hp
set_option maxRecDepth 100000 in
set_option maxHeartbeats 4000000 in
theorem p240_j145_ok (d : Nat) (F : Nat) (a0 : Int32) (a1 : Int32) (K84 : Int32 → Int32 → Option (Int32)) (h : HS) (w : WF h) (hK84 : ∀ (u3 : Int32) (u4 : Int32) (r : Int32), K84 u3 u4 = some r → ex (d + 3) 240 (84, [some (.ref (86)), some (.int (a0)), some (.int (a1)), some (.int (u3)), some (.int (u4)), none], [], h) = some (some (.int (r)), h)) (v3 : Int32) (v4 : Int32) (s0 : Int32) (r : Int32) (hp : p240_j145 F a0 a1 K84 h v3 v4 s0 = some r) : ex (d + 3) 240 (145, [some (.ref (86)), some (.int (a0)), some (.int (a1)), some (.int (v3)), some (.int (v4)), none], [.int (s0)], h) = some (some (.int (r)), h) := by
  unfold p240_j145 at hp
  refine e_istore (ls2 := [some (.ref (86)), some (.int (a0)), some (.int (a1)), some (.int (v3)), some (.int (v4)), some (.int (s0))]) f240_145 (Nat.le_of_ble_eq_true rfl) rfl ?_
  refine e_iload_n f240_147 rfl ?_
  refine e_iload f240_148 rfl ?_
  by_cases hc28 : (s0) = (0 : Int32)
  · rw [if_pos hc28] at hp
    refine e_if_eq_t f240_150 hc28 ?_
    refine e_iconst (v := 0) f240_168 (by decide) ?_
    refine ex_weak (ls := [some (.ref (86)), some (.int (a0)), some (.int (a1)), none, some (.int (v4)), none]) (le2_ok ⟨Or.inr rfl, Or.inr rfl, Or.inr rfl, Or.inl rfl, Or.inr rfl, Or.inl rfl, trivial⟩) ?_
    exact p240_j169_ok d F a0 a1 (K84) (h) (w) (hK84) (v4) (0) (v3) _ hp
  · rw [if_neg hc28] at hp
    refine e_if_eq_f f240_150 hc28 ?_
    refine e_aload_n f240_153 rfl ?_
    refine e_getR f240_154 (WF.t w 86 (by decide)) rfl (WF.r (q := 110) w 86 35 (by decide)) ?_
    refine e_aload_n f240_157 rfl ?_
    refine e_getR f240_158 (WF.t w 86 (by decide)) rfl (WF.r (q := 114) w 86 39 (by decide)) ?_
    refine e_iload f240_161 rfl ?_
    by_cases hg29 : (v4) < (0 : Int32) ∨ 200 ≤ (v4).toNatClampNeg
    · rw [if_pos hg29] at hp; cases hp
    rw [if_neg hg29] at hp
    refine e_iaload f240_163 (Or.inl (WF.t w 114 (by decide))) (WF.n w 114 (by decide)) hg29 ?_
    by_cases hg30 : (hI (h) (114) (v4).toNatClampNeg) < (0 : Int32) ∨ 32 ≤ (hI (h) (114) (v4).toNatClampNeg).toNatClampNeg
    · rw [if_pos hg30] at hp; cases hp
    rw [if_neg hg30] at hp
    refine e_iaload f240_164 (Or.inl (WF.t w 110 (by decide))) (WF.n w 110 (by decide)) hg30 ?_
    refine e_goto f240_165 ?_
    refine ex_weak (ls := [some (.ref (86)), some (.int (a0)), some (.int (a1)), none, some (.int (v4)), none]) (le2_ok ⟨Or.inr rfl, Or.inr rfl, Or.inr rfl, Or.inl rfl, Or.inr rfl, Or.inl rfl, trivial⟩) ?_
    exact p240_j169_ok d F a0 a1 (K84) (h) (w) (hK84) (v4) (hI (h) (110) (hI (h) (114) (v4).toNatClampNeg).toNatClampNeg) (v3) _ hp
set_option maxRecDepth 100000 in
set_option maxHeartbeats 4000000 in
theorem p240_j72_ok (d : Nat) (F : Nat) (a0 : Int32) (a1 : Int32) (K26 : Int32 → Int32 → Option (Int32)) (h : HS) (w : WF h) (hK26 : ∀ (u3 : Int32) (u4 : Int32) (r : Int32), K26 u3 u4 = some r → ex (d + 3) 240 (26, [some (.ref (86)), some (.int (a0)), some (.int (a1)), some (.int (u3)), some (.int (u4)), none], [], h) = some (some (.int (r)), h)) (v4 : Int32) (s0 : Int32) (r : Int32) (hp : p240_j72 F a0 a1 K26 h v4 s0 = some r) : ex (d + 3) 240 (72, [some (.ref (86)), some (.int (a0)), some (.int (a1)), none, some (.int (v4)), none], [.int (s0)], h) = some (some (.int (r)), h) := by
  unfold p240_j72 at hp
  refine e_iconst (v := 0) f240_72 (by decide) ?_
  refine ex_weak (ls := [some (.ref (86)), some (.int (a0)), some (.int (a1)), none, some (.int (v4)), none]) (le2_ok ⟨Or.inr rfl, Or.inr rfl, Or.inr rfl, Or.inl rfl, Or.inr rfl, Or.inl rfl, trivial⟩) ?_
  exact p240_j73_ok d F a0 a1 (K26) (h) (w) (hK26) (v4) (0) (s0) _ hp
set_option maxRecDepth 100000 in
set_option maxHeartbeats 4000000 in
theorem p240_j144_ok (d : Nat) (F : Nat) (a0 : Int32) (a1 : Int32) (K84 : Int32 → Int32 → Option (Int32)) (h : HS) (w : WF h) (hK84 : ∀ (u3 : Int32) (u4 : Int32) (r : Int32), K84 u3 u4 = some r → ex (d + 3) 240 (84, [some (.ref (86)), some (.int (a0)), some (.int (a1)), some (.int (u3)), some (.int (u4)), none], [], h) = some (some (.int (r)), h)) (v3 : Int32) (v4 : Int32) (r : Int32) (hp : p240_j144 F a0 a1 K84 h v3 v4 = some r) : ex (d + 3) 240 (144, [some (.ref (86)), some (.int (a0)), some (.int (a1)), some (.int (v3)), some (.int (v4)), none], [], h) = some (some (.int (r)), h) := by
  unfold p240_j144 at hp
  refine e_iconst (v := 0) f240_144 (by decide) ?_
  refine ex_weak (ls := [some (.ref (86)), some (.int (a0)), some (.int (a1)), some (.int (v3)), some (.int (v4)), none]) (le2_ok ⟨Or.inr rfl, Or.inr rfl, Or.inr rfl, Or.inr rfl, Or.inr rfl, Or.inl rfl, trivial⟩) ?_
  exact p240_j145_ok d F a0 a1 (K84) (h) (w) (hK84) (v3) (v4) (0) _ hp
set_option maxRecDepth 100000 in
set_option maxHeartbeats 4000000 in
theorem p240_L84_ok (d : Nat) (F : Nat) (a0 : Int32) (a1 : Int32) (h : HS) (w : WF h)  : ∀ (n : Nat) (v3 : Int32) (v4 : Int32) (r : Int32), p240_L84 F a0 a1 n h v3 v4 = some r → ex (d + 3) 240 (84, [some (.ref (86)), some (.int (a0)), some (.int (a1)), some (.int (v3)), some (.int (v4)), none], [], h) = some (some (.int (r)), h) := by
  intro n
  induction n with
  | zero => intro v3 v4 r hp; cases hp
  | succ n ih =>
    intro v3 v4 r hp
    unfold p240_L84 at hp
    refine e_iload f240_84 rfl ?_
    refine e_aload_n f240_86 rfl ?_
    refine e_getI f240_87 (WF.t w 86 (by decide)) (by decide) ?_
    by_cases hc15 : (v4) < ((hI (h) (86) 32) : Int32)
    · rw [if_pos hc15] at hp
      refine e_icmp_ge_f f240_90 hc15 ?_
      refine e_aload_n f240_93 rfl ?_
      refine e_getR f240_94 (WF.t w 86 (by decide)) rfl (WF.r (q := 109) w 86 34 (by decide)) ?_
      refine e_aload_n f240_97 rfl ?_
      refine e_getR f240_98 (WF.t w 86 (by decide)) rfl (WF.r (q := 112) w 86 37 (by decide)) ?_
      refine e_iload f240_101 rfl ?_
      by_cases hg16 : (v4) < (0 : Int32) ∨ 200 ≤ (v4).toNatClampNeg
      · rw [if_pos hg16] at hp; cases hp
      rw [if_neg hg16] at hp
      refine e_iaload f240_103 (Or.inl (WF.t w 112 (by decide))) (WF.n w 112 (by decide)) hg16 ?_
      by_cases hg17 : (hI (h) (112) (v4).toNatClampNeg) < (0 : Int32) ∨ 40 ≤ (hI (h) (112) (v4).toNatClampNeg).toNatClampNeg
      · rw [if_pos hg17] at hp; cases hp
      rw [if_neg hg17] at hp
      refine e_iaload f240_104 (Or.inl (WF.t w 109 (by decide))) (WF.n w 109 (by decide)) hg17 ?_
      refine e_iload_n f240_105 rfl ?_
      by_cases hc18 : (hI (h) (109) (hI (h) (112) (v4).toNatClampNeg).toNatClampNeg) = ((a0) : Int32)
      · rw [if_pos hc18] at hp
        refine e_icmp_ne_f f240_106 hc18 ?_
        refine e_aload_n f240_109 rfl ?_
        refine e_iload f240_110 rfl ?_
        refine e_iload_n f240_112 rfl ?_
        obtain ⟨r19, hr20, hp⟩ := bind_some hp
        try dsimp only at hp
        refine e_callV (st := []) (o := 86) (as := [.int (v4), .int (a1)]) f240_113 (by decide) rfl rfl (Nat.le_of_ble_eq_true rfl) (WF.t w 86 (by decide)) (Nat.le_of_ble_eq_true rfl) (p222_ok (d + 2) (h) w (v4) (a1) r19 hr20) ?_
        show ex _ 240 (116, [some (.ref (86)), some (.int (a0)), some (.int (a1)), some (.int (v3)), some (.int (v4)), none], [.int (r19)], h) = _
        by_cases hc21 : (r19) = (0 : Int32)
        · rw [if_pos hc21] at hp
          refine e_if_eq_t f240_116 hc21 ?_
          refine ex_weak (ls := [some (.ref (86)), some (.int (a0)), some (.int (a1)), some (.int (v3)), some (.int (v4)), none]) (le2_ok ⟨Or.inr rfl, Or.inr rfl, Or.inr rfl, Or.inr rfl, Or.inr rfl, Or.inl rfl, trivial⟩) ?_
          exact p240_j144_ok d F a0 a1 ((p240_L84 F a0 a1 n h)) (h) (w) (ih) (v3) (v4) _ hp
        · rw [if_neg hc21] at hp
          refine e_if_eq_f f240_116 hc21 ?_
          refine e_aload_n f240_119 rfl ?_
          refine e_iload f240_120 rfl ?_
          refine e_iload_n f240_122 rfl ?_
          obtain ⟨r22, hr23, hp⟩ := bind_some hp
          try dsimp only at hp
          refine e_callV (st := []) (o := 86) (as := [.int (v4), .int (a1)]) f240_123 (by decide) rfl rfl (Nat.le_of_ble_eq_true rfl) (WF.t w 86 (by decide)) (Nat.le_of_ble_eq_true rfl) (p236_ok (d + 1) F (h) w (v4) (a1) r22 hr23) ?_
          show ex _ 240 (126, [some (.ref (86)), some (.int (a0)), some (.int (a1)), some (.int (v3)), some (.int (v4)), none], [.int (r22)], h) = _
          refine e_iconst (v := -1) f240_126 (by decide) ?_
          by_cases hc24 : (r22) = (((-1)) : Int32)
          · rw [if_pos hc24] at hp
            refine e_icmp_ne_f f240_127 hc24 ?_
            refine e_aload_n f240_130 rfl ?_
            refine e_iload f240_131 rfl ?_
            refine e_iload_n f240_133 rfl ?_
            obtain ⟨r25, hr26, hp⟩ := bind_some hp
            try dsimp only at hp
            refine e_callV (st := []) (o := 86) (as := [.int (v4), .int (a1)]) f240_134 (by decide) rfl rfl (Nat.le_of_ble_eq_true rfl) (WF.t w 86 (by decide)) (Nat.le_of_ble_eq_true rfl) (p235_ok d F (h) w (v4) (a1) r25 hr26) ?_
            show ex _ 240 (137, [some (.ref (86)), some (.int (a0)), some (.int (a1)), some (.int (v3)), some (.int (v4)), none], [.int (r25)], h) = _
            by_cases hc27 : (r25) = (0 : Int32)
            · rw [if_pos hc27] at hp
              refine e_if_ne_f f240_137 hc27 ?_
              refine e_iconst (v := 1) f240_140 (by decide) ?_
              refine e_goto f240_141 ?_
              refine ex_weak (ls := [some (.ref (86)), some (.int (a0)), some (.int (a1)), some (.int (v3)), some (.int (v4)), none]) (le2_ok ⟨Or.inr rfl, Or.inr rfl, Or.inr rfl, Or.inr rfl, Or.inr rfl, Or.inl rfl, trivial⟩) ?_
              exact p240_j145_ok d F a0 a1 ((p240_L84 F a0 a1 n h)) (h) (w) (ih) (v3) (v4) (1) _ hp
            · rw [if_neg hc27] at hp
              refine e_if_ne_t f240_137 hc27 ?_
              refine ex_weak (ls := [some (.ref (86)), some (.int (a0)), some (.int (a1)), some (.int (v3)), some (.int (v4)), none]) (le2_ok ⟨Or.inr rfl, Or.inr rfl, Or.inr rfl, Or.inr rfl, Or.inr rfl, Or.inl rfl, trivial⟩) ?_
              exact p240_j144_ok d F a0 a1 ((p240_L84 F a0 a1 n h)) (h) (w) (ih) (v3) (v4) _ hp
          · rw [if_neg hc24] at hp
            refine e_icmp_ne_t f240_127 hc24 ?_
            refine ex_weak (ls := [some (.ref (86)), some (.int (a0)), some (.int (a1)), some (.int (v3)), some (.int (v4)), none]) (le2_ok ⟨Or.inr rfl, Or.inr rfl, Or.inr rfl, Or.inr rfl, Or.inr rfl, Or.inl rfl, trivial⟩) ?_
            exact p240_j144_ok d F a0 a1 ((p240_L84 F a0 a1 n h)) (h) (w) (ih) (v3) (v4) _ hp
      · rw [if_neg hc18] at hp
        refine e_icmp_ne_t f240_106 hc18 ?_
        refine ex_weak (ls := [some (.ref (86)), some (.int (a0)), some (.int (a1)), some (.int (v3)), some (.int (v4)), none]) (le2_ok ⟨Or.inr rfl, Or.inr rfl, Or.inr rfl, Or.inr rfl, Or.inr rfl, Or.inl rfl, trivial⟩) ?_
        exact p240_j144_ok d F a0 a1 ((p240_L84 F a0 a1 n h)) (h) (w) (ih) (v3) (v4) _ hp
    · rw [if_neg hc15] at hp
      refine e_icmp_ge_t f240_90 hc15 ?_
      refine e_iload_n f240_177 rfl ?_
      have hp := Option.some.inj hp
      subst hp
      exact e_ireturn f240_178 (Or.inl rfl)
set_option maxRecDepth 100000 in
set_option maxHeartbeats 4000000 in
theorem p240_L26_ok (d : Nat) (F : Nat) (a0 : Int32) (a1 : Int32) (h : HS) (w : WF h)  : ∀ (n : Nat) (v3 : Int32) (v4 : Int32) (r : Int32), p240_L26 F a0 a1 n h v3 v4 = some r → ex (d + 3) 240 (26, [some (.ref (86)), some (.int (a0)), some (.int (a1)), some (.int (v3)), some (.int (v4)), none], [], h) = some (some (.int (r)), h) := by
  intro n
  induction n with
  | zero => intro v3 v4 r hp; cases hp
  | succ n ih =>
    intro v3 v4 r hp
    unfold p240_L26 at hp
    refine e_iload f240_26 rfl ?_
    refine e_aload_n f240_28 rfl ?_
    refine e_getI f240_29 (WF.t w 86 (by decide)) (by decide) ?_
    by_cases hc7 : (v4) < ((hI (h) (86) 33) : Int32)
    · rw [if_pos hc7] at hp
      refine e_icmp_ge_f f240_32 hc7 ?_
      refine e_iload_n f240_35 rfl ?_
      refine e_aload_n f240_36 rfl ?_
      refine e_getR f240_37 (WF.t w 86 (by decide)) rfl (WF.r (q := 109) w 86 34 (by decide)) ?_
      refine e_aload_n f240_40 rfl ?_
      refine e_getR f240_41 (WF.t w 86 (by decide)) rfl (WF.r (q := 121) w 86 46 (by decide)) ?_
      refine e_iload f240_44 rfl ?_
      by_cases hg8 : (v4) < (0 : Int32) ∨ 200 ≤ (v4).toNatClampNeg
      · rw [if_pos hg8] at hp; cases hp
      rw [if_neg hg8] at hp
      refine e_iaload f240_46 (Or.inl (WF.t w 121 (by decide))) (WF.n w 121 (by decide)) hg8 ?_
      by_cases hg9 : (hI (h) (121) (v4).toNatClampNeg) < (0 : Int32) ∨ 40 ≤ (hI (h) (121) (v4).toNatClampNeg).toNatClampNeg
      · rw [if_pos hg9] at hp; cases hp
      rw [if_neg hg9] at hp
      refine e_iaload f240_47 (Or.inl (WF.t w 109 (by decide))) (WF.n w 109 (by decide)) hg9 ?_
      refine e_iload_n f240_48 rfl ?_
      by_cases hc10 : (hI (h) (109) (hI (h) (121) (v4).toNatClampNeg).toNatClampNeg) = ((a0) : Int32)
      · rw [if_pos hc10] at hp
        refine e_icmp_ne_f f240_49 hc10 ?_
        refine e_aload_n f240_52 rfl ?_
        refine e_iload f240_53 rfl ?_
        refine e_iload_n f240_55 rfl ?_
        obtain ⟨r11, hr12, hp⟩ := bind_some hp
        try dsimp only at hp
        refine e_callV (st := [.int (v3)]) (o := 86) (as := [.int (v4), .int (a1)]) f240_56 (by decide) rfl rfl (Nat.le_of_ble_eq_true rfl) (WF.t w 86 (by decide)) (Nat.le_of_ble_eq_true rfl) (p223_ok (d + 2) (h) w (v4) (a1) r11 hr12) ?_
        show ex _ 240 (59, [some (.ref (86)), some (.int (a0)), some (.int (a1)), some (.int (v3)), some (.int (v4)), none], [.int (r11), .int (v3)], h) = _
        by_cases hc13 : (r11) = (0 : Int32)
        · rw [if_pos hc13] at hp
          refine e_if_eq_t f240_59 hc13 ?_
          refine ex_weak (ls := [some (.ref (86)), some (.int (a0)), some (.int (a1)), none, some (.int (v4)), none]) (le2_ok ⟨Or.inr rfl, Or.inr rfl, Or.inr rfl, Or.inl rfl, Or.inr rfl, Or.inl rfl, trivial⟩) ?_
          exact p240_j72_ok d F a0 a1 ((p240_L26 F a0 a1 n h)) (h) (w) (ih) (v4) (v3) _ hp
        · rw [if_neg hc13] at hp
          refine e_if_eq_f f240_59 hc13 ?_
          refine e_aload_n f240_62 rfl ?_
          refine e_getR f240_63 (WF.t w 86 (by decide)) rfl (WF.r (q := 122) w 86 47 (by decide)) ?_
          refine e_iload f240_66 rfl ?_
          by_cases hg14 : (v4) < (0 : Int32) ∨ 200 ≤ (v4).toNatClampNeg
          · rw [if_pos hg14] at hp; cases hp
          rw [if_neg hg14] at hp
          refine e_iaload f240_68 (Or.inl (WF.t w 122 (by decide))) (WF.n w 122 (by decide)) hg14 ?_
          refine e_goto f240_69 ?_
          refine ex_weak (ls := [some (.ref (86)), some (.int (a0)), some (.int (a1)), none, some (.int (v4)), none]) (le2_ok ⟨Or.inr rfl, Or.inr rfl, Or.inr rfl, Or.inl rfl, Or.inr rfl, Or.inl rfl, trivial⟩) ?_
          exact p240_j73_ok d F a0 a1 ((p240_L26 F a0 a1 n h)) (h) (w) (ih) (v4) (hI (h) (122) (v4).toNatClampNeg) (v3) _ hp
      · rw [if_neg hc10] at hp
        refine e_icmp_ne_t f240_49 hc10 ?_
        refine ex_weak (ls := [some (.ref (86)), some (.int (a0)), some (.int (a1)), none, some (.int (v4)), none]) (le2_ok ⟨Or.inr rfl, Or.inr rfl, Or.inr rfl, Or.inl rfl, Or.inr rfl, Or.inl rfl, trivial⟩) ?_
        exact p240_j72_ok d F a0 a1 ((p240_L26 F a0 a1 n h)) (h) (w) (ih) (v4) (v3) _ hp
    · rw [if_neg hc7] at hp
      refine e_icmp_ge_t f240_32 hc7 ?_
      refine e_iconst (v := 0) f240_81 (by decide) ?_
      refine e_istore (ls2 := [some (.ref (86)), some (.int (a0)), some (.int (a1)), some (.int (v3)), some (.int (0)), none]) f240_82 (Nat.le_of_ble_eq_true rfl) rfl ?_
      refine ex_weak (ls := [some (.ref (86)), some (.int (a0)), some (.int (a1)), some (.int (v3)), some (.int (0)), none]) (le2_ok ⟨Or.inr rfl, Or.inr rfl, Or.inr rfl, Or.inr rfl, Or.inr rfl, Or.inl rfl, trivial⟩) ?_
      exact p240_L84_ok d F a0 a1 (h) (w) F (v3) (0) _ hp
set_option maxRecDepth 100000 in
set_option maxHeartbeats 4000000 in
theorem p240_ok (d : Nat) (F : Nat) (h : HS) (w : WF h) (a0 : Int32) (a1 : Int32) (r : Int32) (hp : p240 F h a0 a1 = some r) : ex (d + 3) 240 (ent 240 [.ref (86), .int (a0), .int (a1)] h) = some (some (.int (r)), h) := by
  rw [show ent 240 [.ref (86), .int (a0), .int (a1)] h = (0, [some (.ref (86)), some (.int (a0)), some (.int (a1)), none, none, none], [], h) from by  rfl]
  refine ex_weak (ls := [some (.ref (86)), some (.int (a0)), some (.int (a1)), none, none, none]) (le2_ok ⟨Or.inr rfl, Or.inr rfl, Or.inr rfl, Or.inr rfl, Or.inr rfl, Or.inr rfl, trivial⟩) ?_
  unfold p240 at hp
  refine e_iload_n f240_0 rfl ?_
  refine e_iconst (v := 0) f240_1 (by decide) ?_
  refine e_bipush (v := 9) f240_2 (by decide) ?_
  obtain ⟨r1, hr2, hp⟩ := bind_some hp
  try dsimp only at hp
  refine e_callS (st := []) (as := [.int (a0), .int (0), .int (9)]) f240_4 (by decide) rfl rfl (Nat.le_of_ble_eq_true rfl) (Nat.le_of_ble_eq_true rfl) (p187_ok (d + 2) (h) w (a0) (0) (9) r1 hr2) ?_
  show ex _ 240 (7, [some (.ref (86)), some (.int (a0)), some (.int (a1)), none, none, none], [.int (r1)], h) = _
  by_cases hc3 : (r1) = (0 : Int32)
  · rw [if_pos hc3] at hp
    refine e_if_eq_t f240_7 hc3 ?_
    refine e_ldcw (v := -2000000000) f240_17 (by decide) (by decide) ?_
    have hp := Option.some.inj hp
    subst hp
    exact e_ireturn f240_20 (Or.inl rfl)
  · rw [if_neg hc3] at hp
    refine e_if_eq_f f240_7 hc3 ?_
    refine e_iload_n f240_10 rfl ?_
    obtain ⟨r4, hr5, hp⟩ := bind_some hp
    try dsimp only at hp
    refine e_callS (st := []) (as := [.int (a1)]) f240_11 (by decide) rfl rfl (Nat.le_of_ble_eq_true rfl) (Nat.le_of_ble_eq_true rfl) (p188_ok (d + 1) (h) w (a1) r4 hr5) ?_
    show ex _ 240 (14, [some (.ref (86)), some (.int (a0)), some (.int (a1)), none, none, none], [.int (r4)], h) = _
    by_cases hc6 : (r4) = (0 : Int32)
    · rw [if_pos hc6] at hp
      refine e_if_ne_f f240_14 hc6 ?_
      refine e_ldcw (v := -2000000000) f240_17 (by decide) (by decide) ?_
      have hp := Option.some.inj hp
      subst hp
      exact e_ireturn f240_20 (Or.inl rfl)
    · rw [if_neg hc6] at hp
      refine e_if_ne_t f240_14 hc6 ?_
      refine e_iconst (v := 0) f240_21 (by decide) ?_
      refine e_istore_n (ls2 := [some (.ref (86)), some (.int (a0)), some (.int (a1)), some (.int (0)), none, none]) f240_22 (Nat.le_of_ble_eq_true rfl) rfl ?_
      refine e_iconst (v := 0) f240_23 (by decide) ?_
      refine e_istore (ls2 := [some (.ref (86)), some (.int (a0)), some (.int (a1)), some (.int (0)), some (.int (0)), none]) f240_24 (Nat.le_of_ble_eq_true rfl) rfl ?_
      refine ex_weak (ls := [some (.ref (86)), some (.int (a0)), some (.int (a1)), some (.int (0)), some (.int (0)), none]) (le2_ok ⟨Or.inr rfl, Or.inr rfl, Or.inr rfl, Or.inr rfl, Or.inr rfl, Or.inl rfl, trivial⟩) ?_
      exact p240_L26_ok d F a0 a1 (h) (w) F (0) (0) _ hp
theorem f242_0 : fetch 242 0 = some (.bipush 24, 0, 0, 0) := rfl
theorem f242_2 : fetch 242 2 = some (.istore_n 2, 0, 0, 0) := rfl
theorem f242_3 : fetch 242 3 = some (.iload_n 2, 0, 0, 0) := rfl
theorem f242_4 : fetch 242 4 = some (.ifCond .lt 32, 36, 0, 0) := rfl
theorem f242_7 : fetch 242 7 = some (.aload_n 0, 0, 0, 0) := rfl
theorem f242_8 : fetch 242 8 = some (.getfield 128, 12, 51, 2) := rfl
theorem f242_11 : fetch 242 11 = some (.aload_n 0, 0, 0, 0) := rfl
theorem f242_12 : fetch 242 12 = some (.getfield 374, 12, 52, 0) := rfl
theorem f242_15 : fetch 242 15 = some (.iload_n 1, 0, 0, 0) := rfl
theorem f242_16 : fetch 242 16 = some (.iload_n 2, 0, 0, 0) := rfl
theorem f242_17 : fetch 242 17 = some (.ishr, 0, 0, 0) := rfl
theorem f242_18 : fetch 242 18 = some (.i2b, 0, 0, 0) := rfl
theorem f242_19 : fetch 242 19 = some (.bastore, 0, 0, 0) := rfl
theorem f242_20 : fetch 242 20 = some (.aload_n 0, 0, 0, 0) := rfl
theorem f242_21 : fetch 242 21 = some (.dup, 0, 0, 0) := rfl
theorem f242_22 : fetch 242 22 = some (.getfield 374, 12, 52, 0) := rfl
theorem f242_25 : fetch 242 25 = some (.iconst 1, 0, 0, 0) := rfl
theorem f242_26 : fetch 242 26 = some (.iadd, 0, 0, 0) := rfl
theorem f242_27 : fetch 242 27 = some (.putfield 374, 12, 52, 0) := rfl
theorem f242_30 : fetch 242 30 = some (.iinc 2 (-8), 0, 0, 0) := rfl
theorem f242_33 : fetch 242 33 = some (.goto (-30), 3, 0, 0) := rfl
theorem f242_36 : fetch 242 36 = some (.return_, 0, 0, 0) := rfl
set_option maxRecDepth 100000 in
set_option maxHeartbeats 4000000 in
theorem p242_L3_ok (d : Nat) (F : Nat) (a0 : Int32) : ∀ (n : Nat) (h : HS) (w : WF h) (v2 : Int32) (r : HS), p242_L3 F a0 n h v2 = some r → ex (d + 0) 242 (3, [some (.ref (86)), some (.int (a0)), some (.int (v2))], [], h) = some (none, r) := by
  intro n
  induction n with
  | zero => intro h w v2 r hp; cases hp
  | succ n ih =>
    intro h w v2 r hp
    unfold p242_L3 at hp
    refine e_iload_n f242_3 rfl ?_
    by_cases hc1 : (v2) < (0 : Int32)
    · rw [if_pos hc1] at hp
      refine e_if_lt_t f242_4 hc1 ?_
      have hp := Option.some.inj hp
      subst hp
      exact e_return f242_36
    · rw [if_neg hc1] at hp
      refine e_if_lt_f f242_4 hc1 ?_
      refine e_aload_n f242_7 rfl ?_
      refine e_getR f242_8 (WF.t w 86 (by decide)) rfl (WF.r (q := 126) w 86 51 (by decide)) ?_
      refine e_aload_n f242_11 rfl ?_
      refine e_getI f242_12 (WF.t w 86 (by decide)) (by decide) ?_
      refine e_iload_n f242_15 rfl ?_
      refine e_iload_n f242_16 rfl ?_
      refine e_ishr f242_17 ?_
      refine e_i2b f242_18 ?_
      by_cases hg2 : (hI (h) (86) 52) < (0 : Int32) ∨ 400 ≤ (hI (h) (86) 52).toNatClampNeg
      · rw [if_pos hg2] at hp; cases hp
      rw [if_neg hg2] at hp
      refine e_bastore f242_19 (WF.t w 126 (by decide)) (WF.n w 126 (by decide)) hg2 ?_
      obtain ⟨h3, e4, hp⟩ := bind_some hp
      try dsimp only at hp
      have e4 := Option.some.inj e4
      have w5 : WF h3 := e4 ▸ w
      rw [e4]
      refine e_aload_n f242_20 rfl ?_
      refine e_dup f242_21 rfl ?_
      refine e_getI f242_22 (WF.t w5 86 (by decide)) (by decide) ?_
      refine e_iconst (v := 1) f242_25 (by decide) ?_
      refine e_iadd f242_26 ?_
      refine e_putI f242_27 (WF.t w5 86 (by decide)) rfl ?_
      refine e_iinc (ls2 := [some (.ref (86)), some (.int (a0)), some (.int ((v2) + (-8)))]) f242_30 (by decide) rfl rfl ?_
      refine e_goto f242_33 ?_
      refine ex_weak (ls := [some (.ref (86)), some (.int (a0)), some (.int ((v2) + (-8)))]) (le2_ok ⟨Or.inr rfl, Or.inr rfl, Or.inr rfl, trivial⟩) ?_
      exact ih (hsI (h3) (86) 52 ((hI (h3) (86) 52) + (1))) (w5) ((v2) + (-8)) _ hp
set_option maxRecDepth 100000 in
set_option maxHeartbeats 4000000 in
theorem p242_L3_w (F : Nat) (a0 : Int32) : ∀ (n : Nat) (h : HS) (w : WF h) (v2 : Int32) (r : HS), p242_L3 F a0 n h v2 = some r → WF r := by
  intro n
  induction n with
  | zero => intro h w v2 r hp; cases hp
  | succ n ih =>
    intro h w v2 r hp
    unfold p242_L3 at hp
    by_cases hc1 : (v2) < (0 : Int32)
    · rw [if_pos hc1] at hp
      have hp := Option.some.inj hp
      subst hp
      exact (w)
    · rw [if_neg hc1] at hp
      by_cases hg2 : (hI (h) (86) 52) < (0 : Int32) ∨ 400 ≤ (hI (h) (86) 52).toNatClampNeg
      · rw [if_pos hg2] at hp; cases hp
      rw [if_neg hg2] at hp
      obtain ⟨h3, e4, hp⟩ := bind_some hp
      try dsimp only at hp
      have e4 := Option.some.inj e4
      have w5 : WF h3 := e4 ▸ w
      exact ih (hsI (h3) (86) 52 ((hI (h3) (86) 52) + (1))) (w5) ((v2) + (-8)) _ hp
set_option maxRecDepth 100000 in
set_option maxHeartbeats 4000000 in
theorem p242_ok (d : Nat) (F : Nat) (h : HS) (w : WF h) (a0 : Int32) (r : HS) (hp : p242 F h a0 = some r) : ex (d + 0) 242 (ent 242 [.ref (86), .int (a0)] h) = some (none, r) := by
  rw [show ent 242 [.ref (86), .int (a0)] h = (0, [some (.ref (86)), some (.int (a0)), none], [], h) from by  rfl]
  refine ex_weak (ls := [some (.ref (86)), some (.int (a0)), none]) (le2_ok ⟨Or.inr rfl, Or.inr rfl, Or.inr rfl, trivial⟩) ?_
  unfold p242 at hp
  refine e_bipush (v := 24) f242_0 (by decide) ?_
  refine e_istore_n (ls2 := [some (.ref (86)), some (.int (a0)), some (.int (24))]) f242_2 (Nat.le_of_ble_eq_true rfl) rfl ?_
  refine ex_weak (ls := [some (.ref (86)), some (.int (a0)), some (.int (24))]) (le2_ok ⟨Or.inr rfl, Or.inr rfl, Or.inr rfl, trivial⟩) ?_
  exact p242_L3_ok d F a0 F (h) (w) (24) _ hp
set_option maxRecDepth 100000 in
set_option maxHeartbeats 4000000 in
theorem p242_w (F : Nat) (h : HS) (w : WF h) (a0 : Int32) (r : HS) (hp : p242 F h a0 = some r) : WF r := by
  unfold p242 at hp
  exact p242_L3_w F a0 F (h) (w) (24) _ hp
theorem f241_0 : fetch 241 0 = some (.aload_n 0, 0, 0, 0) := rfl
theorem f241_1 : fetch 241 1 = some (.getfield 374, 12, 52, 0) := rfl
theorem f241_4 : fetch 241 4 = some (.bipush 20, 0, 0, 0) := rfl
theorem f241_6 : fetch 241 6 = some (.iadd, 0, 0, 0) := rfl
theorem f241_7 : fetch 241 7 = some (.sipush 400, 0, 0, 0) := rfl
theorem f241_10 : fetch 241 10 = some (.if_icmp .le 5, 15, 0, 0) := rfl
theorem f241_13 : fetch 241 13 = some (.iconst (-1), 0, 0, 0) := rfl
theorem f241_14 : fetch 241 14 = some (.ireturn, 0, 0, 0) := rfl
theorem f241_15 : fetch 241 15 = some (.aload_n 0, 0, 0, 0) := rfl
theorem f241_16 : fetch 241 16 = some (.iload_n 1, 0, 0, 0) := rfl
theorem f241_17 : fetch 241 17 = some (.invokevirtual 377, 242, 1, 0) := rfl
theorem f241_20 : fetch 241 20 = some (.aload_n 0, 0, 0, 0) := rfl
theorem f241_21 : fetch 241 21 = some (.iload_n 2, 0, 0, 0) := rfl
theorem f241_22 : fetch 241 22 = some (.invokevirtual 377, 242, 1, 0) := rfl
theorem f241_25 : fetch 241 25 = some (.aload_n 0, 0, 0, 0) := rfl
theorem f241_26 : fetch 241 26 = some (.iload_n 3, 0, 0, 0) := rfl
theorem f241_27 : fetch 241 27 = some (.invokevirtual 377, 242, 1, 0) := rfl
theorem f241_30 : fetch 241 30 = some (.aload_n 0, 0, 0, 0) := rfl
theorem f241_31 : fetch 241 31 = some (.iload 4, 0, 0, 0) := rfl
theorem f241_33 : fetch 241 33 = some (.invokevirtual 377, 242, 1, 0) := rfl
theorem f241_36 : fetch 241 36 = some (.aload_n 0, 0, 0, 0) := rfl
theorem f241_37 : fetch 241 37 = some (.iload 5, 0, 0, 0) := rfl
theorem f241_39 : fetch 241 39 = some (.invokevirtual 377, 242, 1, 0) := rfl
theorem f241_42 : fetch 241 42 = some (.aload_n 0, 0, 0, 0) := rfl
theorem f241_43 : fetch 241 43 = some (.getfield 374, 12, 52, 0) := rfl
theorem f241_46 : fetch 241 46 = some (.ireturn, 0, 0, 0) := rfl
set_option maxRecDepth 100000 in
set_option maxHeartbeats 4000000 in
theorem p241_ok (d : Nat) (F : Nat) (h : HS) (w : WF h) (a0 : Int32) (a1 : Int32) (a2 : Int32) (a3 : Int32) (a4 : Int32) (r : Int32 × HS) (hp : p241 F h a0 a1 a2 a3 a4 = some r) : ex (d + 1) 241 (ent 241 [.ref (86), .int (a0), .int (a1), .int (a2), .int (a3), .int (a4)] h) = some (some (.int (r.1)), r.2) := by
  rw [show ent 241 [.ref (86), .int (a0), .int (a1), .int (a2), .int (a3), .int (a4)] h = (0, [some (.ref (86)), some (.int (a0)), some (.int (a1)), some (.int (a2)), some (.int (a3)), some (.int (a4))], [], h) from by  rfl]
  refine ex_weak (ls := [some (.ref (86)), some (.int (a0)), some (.int (a1)), some (.int (a2)), some (.int (a3)), some (.int (a4))]) (le2_ok ⟨Or.inr rfl, Or.inr rfl, Or.inr rfl, Or.inr rfl, Or.inr rfl, Or.inr rfl, trivial⟩) ?_
  unfold p241 at hp
  refine e_aload_n f241_0 rfl ?_
  refine e_getI f241_1 (WF.t w 86 (by decide)) (by decide) ?_
  refine e_bipush (v := 20) f241_4 (by decide) ?_
  refine e_iadd f241_6 ?_
  refine e_sipush (v := 400) f241_7 (by decide) ?_
  by_cases hc1 : (400) < (((hI (h) (86) 52) + (20)) : Int32)
  · rw [if_pos hc1] at hp
    refine e_icmp_le_f f241_10 hc1 ?_
    refine e_iconst (v := -1) f241_13 (by decide) ?_
    have hp := Option.some.inj hp
    subst hp
    exact e_ireturn f241_14 (Or.inl rfl)
  · rw [if_neg hc1] at hp
    refine e_icmp_le_t f241_10 hc1 ?_
    refine e_aload_n f241_15 rfl ?_
    refine e_iload_n f241_16 rfl ?_
    obtain ⟨r2, hr3, hp⟩ := bind_some hp
    try dsimp only at hp
    refine e_callV (st := []) (o := 86) (as := [.int (a0)]) f241_17 (by decide) rfl rfl (Nat.le_of_ble_eq_true rfl) (WF.t w 86 (by decide)) (Nat.le_of_ble_eq_true rfl) (p242_ok d F (h) w (a0) r2 hr3) ?_
    show ex _ 241 (20, [some (.ref (86)), some (.int (a0)), some (.int (a1)), some (.int (a2)), some (.int (a3)), some (.int (a4))], [], r2) = _
    refine e_aload_n f241_20 rfl ?_
    refine e_iload_n f241_21 rfl ?_
    obtain ⟨r4, hr5, hp⟩ := bind_some hp
    try dsimp only at hp
    refine e_callV (st := []) (o := 86) (as := [.int (a1)]) f241_22 (by decide) rfl rfl (Nat.le_of_ble_eq_true rfl) (WF.t (p242_w F (h) w (a0)  r2 hr3) 86 (by decide)) (Nat.le_of_ble_eq_true rfl) (p242_ok d F (r2) (p242_w F (h) w (a0)  r2 hr3) (a1) r4 hr5) ?_
    show ex _ 241 (25, [some (.ref (86)), some (.int (a0)), some (.int (a1)), some (.int (a2)), some (.int (a3)), some (.int (a4))], [], r4) = _
    refine e_aload_n f241_25 rfl ?_
    refine e_iload_n f241_26 rfl ?_
    obtain ⟨r6, hr7, hp⟩ := bind_some hp
    try dsimp only at hp
    refine e_callV (st := []) (o := 86) (as := [.int (a2)]) f241_27 (by decide) rfl rfl (Nat.le_of_ble_eq_true rfl) (WF.t (p242_w F (r2) (p242_w F (h) w (a0)  r2 hr3) (a1)  r4 hr5) 86 (by decide)) (Nat.le_of_ble_eq_true rfl) (p242_ok d F (r4) (p242_w F (r2) (p242_w F (h) w (a0)  r2 hr3) (a1)  r4 hr5) (a2) r6 hr7) ?_
    show ex _ 241 (30, [some (.ref (86)), some (.int (a0)), some (.int (a1)), some (.int (a2)), some (.int (a3)), some (.int (a4))], [], r6) = _
    refine e_aload_n f241_30 rfl ?_
    refine e_iload f241_31 rfl ?_
    obtain ⟨r8, hr9, hp⟩ := bind_some hp
    try dsimp only at hp
    refine e_callV (st := []) (o := 86) (as := [.int (a3)]) f241_33 (by decide) rfl rfl (Nat.le_of_ble_eq_true rfl) (WF.t (p242_w F (r4) (p242_w F (r2) (p242_w F (h) w (a0)  r2 hr3) (a1)  r4 hr5) (a2)  r6 hr7) 86 (by decide)) (Nat.le_of_ble_eq_true rfl) (p242_ok d F (r6) (p242_w F (r4) (p242_w F (r2) (p242_w F (h) w (a0)  r2 hr3) (a1)  r4 hr5) (a2)  r6 hr7) (a3) r8 hr9) ?_
    show ex _ 241 (36, [some (.ref (86)), some (.int (a0)), some (.int (a1)), some (.int (a2)), some (.int (a3)), some (.int (a4))], [], r8) = _
    refine e_aload_n f241_36 rfl ?_
    refine e_iload f241_37 rfl ?_
    obtain ⟨r10, hr11, hp⟩ := bind_some hp
    try dsimp only at hp
    refine e_callV (st := []) (o := 86) (as := [.int (a4)]) f241_39 (by decide) rfl rfl (Nat.le_of_ble_eq_true rfl) (WF.t (p242_w F (r6) (p242_w F (r4) (p242_w F (r2) (p242_w F (h) w (a0)  r2 hr3) (a1)  r4 hr5) (a2)  r6 hr7) (a3)  r8 hr9) 86 (by decide)) (Nat.le_of_ble_eq_true rfl) (p242_ok d F (r8) (p242_w F (r6) (p242_w F (r4) (p242_w F (r2) (p242_w F (h) w (a0)  r2 hr3) (a1)  r4 hr5) (a2)  r6 hr7) (a3)  r8 hr9) (a4) r10 hr11) ?_
    show ex _ 241 (42, [some (.ref (86)), some (.int (a0)), some (.int (a1)), some (.int (a2)), some (.int (a3)), some (.int (a4))], [], r10) = _
    refine e_aload_n f241_42 rfl ?_
    refine e_getI f241_43 (WF.t (p242_w F (r8) (p242_w F (r6) (p242_w F (r4) (p242_w F (r2) (p242_w F (h) w (a0)  r2 hr3) (a1)  r4 hr5) (a2)  r6 hr7) (a3)  r8 hr9) (a4)  r10 hr11) 86 (by decide)) (by decide) ?_
    have hp := Option.some.inj hp
    subst hp
    exact e_ireturn f241_46 (Or.inl rfl)
set_option maxRecDepth 100000 in
set_option maxHeartbeats 4000000 in
theorem p241_w (F : Nat) (h : HS) (w : WF h) (a0 : Int32) (a1 : Int32) (a2 : Int32) (a3 : Int32) (a4 : Int32) (r : Int32 × HS) (hp : p241 F h a0 a1 a2 a3 a4 = some r) : WF r.2 := by
  unfold p241 at hp
  by_cases hc1 : (400) < (((hI (h) (86) 52) + (20)) : Int32)
  · rw [if_pos hc1] at hp
    have hp := Option.some.inj hp
    subst hp
    exact (w)
  · rw [if_neg hc1] at hp
    obtain ⟨r2, hr3, hp⟩ := bind_some hp
    try dsimp only at hp
    obtain ⟨r4, hr5, hp⟩ := bind_some hp
    try dsimp only at hp
    obtain ⟨r6, hr7, hp⟩ := bind_some hp
    try dsimp only at hp
    obtain ⟨r8, hr9, hp⟩ := bind_some hp
    try dsimp only at hp
    obtain ⟨r10, hr11, hp⟩ := bind_some hp
    try dsimp only at hp
    have hp := Option.some.inj hp
    subst hp
    exact ((p242_w F (r8) (p242_w F (r6) (p242_w F (r4) (p242_w F (r2) (p242_w F (h) w (a0)  r2 hr3) (a1)  r4 hr5) (a2)  r6 hr7) (a3)  r8 hr9) (a4)  r10 hr11))
theorem f243_0 : fetch 243 0 = some (.iload_n 1, 0, 0, 0) := rfl
theorem f243_1 : fetch 243 1 = some (.ifCond .lt 11, 12, 0, 0) := rfl
theorem f243_4 : fetch 243 4 = some (.iload_n 1, 0, 0, 0) := rfl
theorem f243_5 : fetch 243 5 = some (.aload_n 0, 0, 0, 0) := rfl
theorem f243_6 : fetch 243 6 = some (.getfield 374, 12, 52, 0) := rfl
theorem f243_9 : fetch 243 9 = some (.if_icmp .le 5, 14, 0, 0) := rfl
theorem f243_12 : fetch 243 12 = some (.iconst (-1), 0, 0, 0) := rfl
theorem f243_13 : fetch 243 13 = some (.ireturn, 0, 0, 0) := rfl
theorem f243_14 : fetch 243 14 = some (.aload_n 0, 0, 0, 0) := rfl
theorem f243_15 : fetch 243 15 = some (.iload_n 1, 0, 0, 0) := rfl
theorem f243_16 : fetch 243 16 = some (.putfield 374, 12, 52, 0) := rfl
theorem f243_19 : fetch 243 19 = some (.iload_n 1, 0, 0, 0) := rfl
theorem f243_20 : fetch 243 20 = some (.ireturn, 0, 0, 0) := rfl
set_option maxRecDepth 100000 in
set_option maxHeartbeats 4000000 in
theorem p243_ok (d : Nat) (h : HS) (w : WF h) (a0 : Int32) (r : Int32 × HS) (hp : p243 h a0 = some r) : ex (d + 0) 243 (ent 243 [.ref (86), .int (a0)] h) = some (some (.int (r.1)), r.2) := by
  rw [show ent 243 [.ref (86), .int (a0)] h = (0, [some (.ref (86)), some (.int (a0))], [], h) from by  rfl]
  refine ex_weak (ls := [some (.ref (86)), some (.int (a0))]) (le2_ok ⟨Or.inr rfl, Or.inr rfl, trivial⟩) ?_
  unfold p243 at hp
  refine e_iload_n f243_0 rfl ?_
  by_cases hc1 : (a0) < (0 : Int32)
  · rw [if_pos hc1] at hp
    refine e_if_lt_t f243_1 hc1 ?_
    refine e_iconst (v := -1) f243_12 (by decide) ?_
    have hp := Option.some.inj hp
    subst hp
    exact e_ireturn f243_13 (Or.inl rfl)
  · rw [if_neg hc1] at hp
    refine e_if_lt_f f243_1 hc1 ?_
    refine e_iload_n f243_4 rfl ?_
    refine e_aload_n f243_5 rfl ?_
    refine e_getI f243_6 (WF.t w 86 (by decide)) (by decide) ?_
    by_cases hc2 : (hI (h) (86) 52) < ((a0) : Int32)
    · rw [if_pos hc2] at hp
      refine e_icmp_le_f f243_9 hc2 ?_
      refine e_iconst (v := -1) f243_12 (by decide) ?_
      have hp := Option.some.inj hp
      subst hp
      exact e_ireturn f243_13 (Or.inl rfl)
    · rw [if_neg hc2] at hp
      refine e_icmp_le_t f243_9 hc2 ?_
      refine e_aload_n f243_14 rfl ?_
      refine e_iload_n f243_15 rfl ?_
      refine e_putI f243_16 (WF.t w 86 (by decide)) rfl ?_
      refine e_iload_n f243_19 rfl ?_
      have hp := Option.some.inj hp
      subst hp
      exact e_ireturn f243_20 (Or.inl rfl)
set_option maxRecDepth 100000 in
set_option maxHeartbeats 4000000 in
theorem p243_w (h : HS) (w : WF h) (a0 : Int32) (r : Int32 × HS) (hp : p243 h a0 = some r) : WF r.2 := by
  unfold p243 at hp
  by_cases hc1 : (a0) < (0 : Int32)
  · rw [if_pos hc1] at hp
    have hp := Option.some.inj hp
    subst hp
    exact (w)
  · rw [if_neg hc1] at hp
    by_cases hc2 : (hI (h) (86) 52) < ((a0) : Int32)
    · rw [if_pos hc2] at hp
      have hp := Option.some.inj hp
      subst hp
      exact (w)
    · rw [if_neg hc2] at hp
      have hp := Option.some.inj hp
      subst hp
      exact (w)
theorem f244_0 : fetch 244 0 = some (.aload_n 0, 0, 0, 0) := rfl
theorem f244_1 : fetch 244 1 = some (.getfield 381, 12, 55, 0) := rfl
theorem f244_4 : fetch 244 4 = some (.ifCond .ne 15, 19, 0, 0) := rfl
theorem f244_7 : fetch 244 7 = some (.aload_n 0, 0, 0, 0) := rfl
theorem f244_8 : fetch 244 8 = some (.iconst 1, 0, 0, 0) := rfl
theorem f244_9 : fetch 244 9 = some (.bipush 8, 0, 0, 0) := rfl
theorem f244_11 : fetch 244 11 = some (.iload_n 2, 0, 0, 0) := rfl
theorem f244_12 : fetch 244 12 = some (.imul, 0, 0, 0) := rfl
theorem f244_13 : fetch 244 13 = some (.iadd, 0, 0, 0) := rfl
theorem f244_14 : fetch 244 14 = some (.iload_n 1, 0, 0, 0) := rfl
theorem f244_15 : fetch 244 15 = some (.iadd, 0, 0, 0) := rfl
theorem f244_16 : fetch 244 16 = some (.putfield 381, 12, 55, 0) := rfl
theorem f244_19 : fetch 244 19 = some (.return_, 0, 0, 0) := rfl
set_option maxRecDepth 100000 in
set_option maxHeartbeats 4000000 in
theorem p244_ok (d : Nat) (h : HS) (w : WF h) (a0 : Int32) (a1 : Int32) (r : HS) (hp : p244 h a0 a1 = some r) : ex (d + 0) 244 (ent 244 [.ref (86), .int (a0), .int (a1)] h) = some (none, r) := by
  rw [show ent 244 [.ref (86), .int (a0), .int (a1)] h = (0, [some (.ref (86)), some (.int (a0)), some (.int (a1))], [], h) from by  rfl]
  refine ex_weak (ls := [some (.ref (86)), some (.int (a0)), some (.int (a1))]) (le2_ok ⟨Or.inr rfl, Or.inr rfl, Or.inr rfl, trivial⟩) ?_
  unfold p244 at hp
  refine e_aload_n f244_0 rfl ?_
  refine e_getI f244_1 (WF.t w 86 (by decide)) (by decide) ?_
  by_cases hc1 : (hI (h) (86) 55) = (0 : Int32)
  · rw [if_pos hc1] at hp
    refine e_if_ne_f f244_4 hc1 ?_
    refine e_aload_n f244_7 rfl ?_
    refine e_iconst (v := 1) f244_8 (by decide) ?_
    refine e_bipush (v := 8) f244_9 (by decide) ?_
    refine e_iload_n f244_11 rfl ?_
    refine e_imul f244_12 ?_
    refine e_iadd f244_13 ?_
    refine e_iload_n f244_14 rfl ?_
    refine e_iadd f244_15 ?_
    refine e_putI f244_16 (WF.t w 86 (by decide)) rfl ?_
    have hp := Option.some.inj hp
    subst hp
    exact e_return f244_19
  · rw [if_neg hc1] at hp
    refine e_if_ne_t f244_4 hc1 ?_
    have hp := Option.some.inj hp
    subst hp
    exact e_return f244_19
set_option maxRecDepth 100000 in
set_option maxHeartbeats 4000000 in
theorem p244_w (h : HS) (w : WF h) (a0 : Int32) (a1 : Int32) (r : HS) (hp : p244 h a0 a1 = some r) : WF r := by
  unfold p244 at hp
  by_cases hc1 : (hI (h) (86) 55) = (0 : Int32)
  · rw [if_pos hc1] at hp
    have hp := Option.some.inj hp
    subst hp
    exact (w)
  · rw [if_neg hc1] at hp
    have hp := Option.some.inj hp
    subst hp
    exact (w)
theorem f245_0 : fetch 245 0 = some (.aload_n 0, 0, 0, 0) := rfl
theorem f245_1 : fetch 245 1 = some (.getfield 384, 12, 53, 0) := rfl
theorem f245_4 : fetch 245 4 = some (.aload_n 0, 0, 0, 0) := rfl
theorem f245_5 : fetch 245 5 = some (.getfield 374, 12, 52, 0) := rfl
theorem f245_8 : fetch 245 8 = some (.if_icmp .ge 30, 38, 0, 0) := rfl
theorem f245_11 : fetch 245 11 = some (.aload_n 0, 0, 0, 0) := rfl
theorem f245_12 : fetch 245 12 = some (.getfield 128, 12, 51, 2) := rfl
theorem f245_15 : fetch 245 15 = some (.aload_n 0, 0, 0, 0) := rfl
theorem f245_16 : fetch 245 16 = some (.getfield 384, 12, 53, 0) := rfl
theorem f245_19 : fetch 245 19 = some (.baload, 0, 0, 0) := rfl
theorem f245_20 : fetch 245 20 = some (.bipush 32, 0, 0, 0) := rfl
theorem f245_22 : fetch 245 22 = some (.if_icmp .ne 16, 38, 0, 0) := rfl
theorem f245_25 : fetch 245 25 = some (.aload_n 0, 0, 0, 0) := rfl
theorem f245_26 : fetch 245 26 = some (.dup, 0, 0, 0) := rfl
theorem f245_27 : fetch 245 27 = some (.getfield 384, 12, 53, 0) := rfl
theorem f245_30 : fetch 245 30 = some (.iconst 1, 0, 0, 0) := rfl
theorem f245_31 : fetch 245 31 = some (.iadd, 0, 0, 0) := rfl
theorem f245_32 : fetch 245 32 = some (.putfield 384, 12, 53, 0) := rfl
theorem f245_35 : fetch 245 35 = some (.goto (-35), 0, 0, 0) := rfl
theorem f245_38 : fetch 245 38 = some (.aload_n 0, 0, 0, 0) := rfl
theorem f245_39 : fetch 245 39 = some (.aload_n 0, 0, 0, 0) := rfl
theorem f245_40 : fetch 245 40 = some (.getfield 384, 12, 53, 0) := rfl
theorem f245_43 : fetch 245 43 = some (.putfield 387, 12, 54, 0) := rfl
theorem f245_46 : fetch 245 46 = some (.return_, 0, 0, 0) := rfl
set_option maxRecDepth 100000 in
set_option maxHeartbeats 4000000 in
theorem p245_j38_ok (d : Nat) (F : Nat) (h : HS) (w : WF h) (r : HS) (hp : p245_j38 F h = some r) : ex (d + 0) 245 (38, [some (.ref (86))], [], h) = some (none, r) := by
  unfold p245_j38 at hp
  refine e_aload_n f245_38 rfl ?_
  refine e_aload_n f245_39 rfl ?_
  refine e_getI f245_40 (WF.t w 86 (by decide)) (by decide) ?_
  refine e_putI f245_43 (WF.t w 86 (by decide)) rfl ?_
  have hp := Option.some.inj hp
  subst hp
  exact e_return f245_46
set_option maxRecDepth 100000 in
set_option maxHeartbeats 4000000 in
theorem p245_j38_w (F : Nat) (h : HS) (w : WF h) (r : HS) (hp : p245_j38 F h = some r) : WF r := by
  unfold p245_j38 at hp
  have hp := Option.some.inj hp
  subst hp
  exact (w)
set_option maxRecDepth 100000 in
set_option maxHeartbeats 4000000 in
theorem p245_L0_ok (d : Nat) (F : Nat) : ∀ (n : Nat) (h : HS) (w : WF h) (r : HS), p245_L0 F n h = some r → ex (d + 0) 245 (0, [some (.ref (86))], [], h) = some (none, r) := by
  intro n
  induction n with
  | zero => intro h w r hp; cases hp
  | succ n ih =>
    intro h w r hp
    unfold p245_L0 at hp
    refine e_aload_n f245_0 rfl ?_
    refine e_getI f245_1 (WF.t w 86 (by decide)) (by decide) ?_
    refine e_aload_n f245_4 rfl ?_
    refine e_getI f245_5 (WF.t w 86 (by decide)) (by decide) ?_
    by_cases hc1 : (hI (h) (86) 53) < ((hI (h) (86) 52) : Int32)
    · rw [if_pos hc1] at hp
      refine e_icmp_ge_f f245_8 hc1 ?_
      refine e_aload_n f245_11 rfl ?_
      refine e_getR f245_12 (WF.t w 86 (by decide)) rfl (WF.r (q := 126) w 86 51 (by decide)) ?_
      refine e_aload_n f245_15 rfl ?_
      refine e_getI f245_16 (WF.t w 86 (by decide)) (by decide) ?_
      by_cases hg2 : (hI (h) (86) 53) < (0 : Int32) ∨ 400 ≤ (hI (h) (86) 53).toNatClampNeg
      · rw [if_pos hg2] at hp; cases hp
      rw [if_neg hg2] at hp
      refine e_baload f245_19 (Or.inl (WF.t w 126 (by decide))) (WF.n w 126 (by decide)) hg2 ?_
      refine e_bipush (v := 32) f245_20 (by decide) ?_
      by_cases hc3 : (hI (h) (126) (hI (h) (86) 53).toNatClampNeg) = ((32) : Int32)
      · rw [if_pos hc3] at hp
        refine e_icmp_ne_f f245_22 hc3 ?_
        refine e_aload_n f245_25 rfl ?_
        refine e_dup f245_26 rfl ?_
        refine e_getI f245_27 (WF.t w 86 (by decide)) (by decide) ?_
        refine e_iconst (v := 1) f245_30 (by decide) ?_
        refine e_iadd f245_31 ?_
        refine e_putI f245_32 (WF.t w 86 (by decide)) rfl ?_
        refine e_goto f245_35 ?_
        refine ex_weak (ls := [some (.ref (86))]) (le2_ok ⟨Or.inr rfl, trivial⟩) ?_
        exact ih (hsI (h) (86) 53 ((hI (h) (86) 53) + (1))) (w)  _ hp
      · rw [if_neg hc3] at hp
        refine e_icmp_ne_t f245_22 hc3 ?_
        refine ex_weak (ls := [some (.ref (86))]) (le2_ok ⟨Or.inr rfl, trivial⟩) ?_
        exact p245_j38_ok d F (h) (w)  _ hp
    · rw [if_neg hc1] at hp
      refine e_icmp_ge_t f245_8 hc1 ?_
      refine ex_weak (ls := [some (.ref (86))]) (le2_ok ⟨Or.inr rfl, trivial⟩) ?_
      exact p245_j38_ok d F (h) (w)  _ hp
set_option maxRecDepth 100000 in
set_option maxHeartbeats 4000000 in
theorem p245_L0_w (F : Nat) : ∀ (n : Nat) (h : HS) (w : WF h) (r : HS), p245_L0 F n h = some r → WF r := by
  intro n
  induction n with
  | zero => intro h w r hp; cases hp
  | succ n ih =>
    intro h w r hp
    unfold p245_L0 at hp
    by_cases hc1 : (hI (h) (86) 53) < ((hI (h) (86) 52) : Int32)
    · rw [if_pos hc1] at hp
      by_cases hg2 : (hI (h) (86) 53) < (0 : Int32) ∨ 400 ≤ (hI (h) (86) 53).toNatClampNeg
      · rw [if_pos hg2] at hp; cases hp
      rw [if_neg hg2] at hp
      by_cases hc3 : (hI (h) (126) (hI (h) (86) 53).toNatClampNeg) = ((32) : Int32)
      · rw [if_pos hc3] at hp
        exact ih (hsI (h) (86) 53 ((hI (h) (86) 53) + (1))) (w)  _ hp
      · rw [if_neg hc3] at hp
        exact p245_j38_w F (h) (w)  _ hp
    · rw [if_neg hc1] at hp
      exact p245_j38_w F (h) (w)  _ hp
set_option maxRecDepth 100000 in
set_option maxHeartbeats 4000000 in
theorem p245_ok (d : Nat) (F : Nat) (h : HS) (w : WF h) (r : HS) (hp : p245 F h = some r) : ex (d + 0) 245 (ent 245 [.ref (86)] h) = some (none, r) := by
  rw [show ent 245 [.ref (86)] h = (0, [some (.ref (86))], [], h) from by  rfl]
  refine ex_weak (ls := [some (.ref (86))]) (le2_ok ⟨Or.inr rfl, trivial⟩) ?_
  unfold p245 at hp
  refine ex_weak (ls := [some (.ref (86))]) (le2_ok ⟨Or.inr rfl, trivial⟩) ?_
  exact p245_L0_ok d F F (h) (w)  _ hp
set_option maxRecDepth 100000 in
set_option maxHeartbeats 4000000 in
theorem p245_w (F : Nat) (h : HS) (w : WF h) (r : HS) (hp : p245 F h = some r) : WF r := by
  unfold p245 at hp
  exact p245_L0_w F F (h) (w)  _ hp
theorem f246_0 : fetch 246 0 = some (.aload_n 0, 0, 0, 0) := rfl
theorem f246_1 : fetch 246 1 = some (.getfield 384, 12, 53, 0) := rfl
theorem f246_4 : fetch 246 4 = some (.aload_n 0, 0, 0, 0) := rfl
theorem f246_5 : fetch 246 5 = some (.getfield 374, 12, 52, 0) := rfl
theorem f246_8 : fetch 246 8 = some (.if_icmp .ge 15, 23, 0, 0) := rfl
theorem f246_11 : fetch 246 11 = some (.aload_n 0, 0, 0, 0) := rfl
theorem f246_12 : fetch 246 12 = some (.getfield 128, 12, 51, 2) := rfl
theorem f246_15 : fetch 246 15 = some (.aload_n 0, 0, 0, 0) := rfl
theorem f246_16 : fetch 246 16 = some (.getfield 384, 12, 53, 0) := rfl
theorem f246_19 : fetch 246 19 = some (.baload, 0, 0, 0) := rfl
theorem f246_20 : fetch 246 20 = some (.goto 4, 24, 0, 0) := rfl
theorem f246_23 : fetch 246 23 = some (.iconst (-1), 0, 0, 0) := rfl
theorem f246_24 : fetch 246 24 = some (.ireturn, 0, 0, 0) := rfl
set_option maxRecDepth 100000 in
set_option maxHeartbeats 4000000 in
theorem p246_ok (d : Nat) (h : HS) (w : WF h) (r : Int32) (hp : p246 h = some r) : ex (d + 0) 246 (ent 246 [.ref (86)] h) = some (some (.int (r)), h) := by
  rw [show ent 246 [.ref (86)] h = (0, [some (.ref (86))], [], h) from by  rfl]
  refine ex_weak (ls := [some (.ref (86))]) (le2_ok ⟨Or.inr rfl, trivial⟩) ?_
  unfold p246 at hp
  refine e_aload_n f246_0 rfl ?_
  refine e_getI f246_1 (WF.t w 86 (by decide)) (by decide) ?_
  refine e_aload_n f246_4 rfl ?_
  refine e_getI f246_5 (WF.t w 86 (by decide)) (by decide) ?_
  by_cases hc1 : (hI (h) (86) 53) < ((hI (h) (86) 52) : Int32)
  · rw [if_pos hc1] at hp
    refine e_icmp_ge_f f246_8 hc1 ?_
    refine e_aload_n f246_11 rfl ?_
    refine e_getR f246_12 (WF.t w 86 (by decide)) rfl (WF.r (q := 126) w 86 51 (by decide)) ?_
    refine e_aload_n f246_15 rfl ?_
    refine e_getI f246_16 (WF.t w 86 (by decide)) (by decide) ?_
    by_cases hg2 : (hI (h) (86) 53) < (0 : Int32) ∨ 400 ≤ (hI (h) (86) 53).toNatClampNeg
    · rw [if_pos hg2] at hp; cases hp
    rw [if_neg hg2] at hp
    refine e_baload f246_19 (Or.inl (WF.t w 126 (by decide))) (WF.n w 126 (by decide)) hg2 ?_
    refine e_goto f246_20 ?_
    have hp := Option.some.inj hp
    subst hp
    exact e_ireturn f246_24 (Or.inl rfl)
  · rw [if_neg hc1] at hp
    refine e_icmp_ge_t f246_8 hc1 ?_
    refine e_iconst (v := -1) f246_23 (by decide) ?_
    have hp := Option.some.inj hp
    subst hp
    exact e_ireturn f246_24 (Or.inl rfl)
theorem f247_0 : fetch 247 0 = some (.iload_n 0, 0, 0, 0) := rfl
theorem f247_1 : fetch 247 1 = some (.bipush 48, 0, 0, 0) := rfl
theorem f247_3 : fetch 247 3 = some (.if_icmp .lt 13, 16, 0, 0) := rfl
theorem f247_6 : fetch 247 6 = some (.iload_n 0, 0, 0, 0) := rfl
theorem f247_7 : fetch 247 7 = some (.bipush 57, 0, 0, 0) := rfl
theorem f247_9 : fetch 247 9 = some (.if_icmp .gt 7, 16, 0, 0) := rfl
theorem f247_12 : fetch 247 12 = some (.iconst 1, 0, 0, 0) := rfl
theorem f247_13 : fetch 247 13 = some (.goto 4, 17, 0, 0) := rfl
theorem f247_16 : fetch 247 16 = some (.iconst 0, 0, 0, 0) := rfl
theorem f247_17 : fetch 247 17 = some (.ireturn, 0, 0, 1) := rfl
set_option maxRecDepth 100000 in
set_option maxHeartbeats 4000000 in
theorem p247_ok (d : Nat) (h : HS) (w : WF h) (a0 : Int32) (r : Int32) (hp : p247 h a0 = some r) : ex (d + 0) 247 (ent 247 [.int (a0)] h) = some (some (.int (r)), h) := by
  rw [show ent 247 [.int (a0)] h = (0, [some (.int (a0))], [], h) from by  rfl]
  refine ex_weak (ls := [some (.int (a0))]) (le2_ok ⟨Or.inr rfl, trivial⟩) ?_
  unfold p247 at hp
  refine e_iload_n f247_0 rfl ?_
  refine e_bipush (v := 48) f247_1 (by decide) ?_
  by_cases hc1 : (a0) < ((48) : Int32)
  · rw [if_pos hc1] at hp
    refine e_icmp_lt_t f247_3 hc1 ?_
    refine e_iconst (v := 0) f247_16 (by decide) ?_
    have hp := Option.some.inj hp
    subst hp
    exact e_ireturn f247_17 (by decide)
  · rw [if_neg hc1] at hp
    refine e_icmp_lt_f f247_3 hc1 ?_
    refine e_iload_n f247_6 rfl ?_
    refine e_bipush (v := 57) f247_7 (by decide) ?_
    by_cases hc2 : (57) < ((a0) : Int32)
    · rw [if_pos hc2] at hp
      refine e_icmp_gt_t f247_9 hc2 ?_
      refine e_iconst (v := 0) f247_16 (by decide) ?_
      have hp := Option.some.inj hp
      subst hp
      exact e_ireturn f247_17 (by decide)
    · rw [if_neg hc2] at hp
      refine e_icmp_gt_f f247_9 hc2 ?_
      refine e_iconst (v := 1) f247_12 (by decide) ?_
      refine e_goto f247_13 ?_
      have hp := Option.some.inj hp
      subst hp
      exact e_ireturn f247_17 (by decide)
theorem f248_0 : fetch 248 0 = some (.aload_n 0, 0, 0, 0) := rfl
theorem f248_1 : fetch 248 1 = some (.getfield 384, 12, 53, 0) := rfl
theorem f248_4 : fetch 248 4 = some (.istore_n 1, 0, 0, 0) := rfl
theorem f248_5 : fetch 248 5 = some (.iload_n 1, 0, 0, 0) := rfl
theorem f248_6 : fetch 248 6 = some (.aload_n 0, 0, 0, 0) := rfl
theorem f248_7 : fetch 248 7 = some (.getfield 374, 12, 52, 0) := rfl
theorem f248_10 : fetch 248 10 = some (.if_icmp .ge 31, 41, 0, 0) := rfl
theorem f248_13 : fetch 248 13 = some (.aload_n 0, 0, 0, 0) := rfl
theorem f248_14 : fetch 248 14 = some (.getfield 128, 12, 51, 2) := rfl
theorem f248_17 : fetch 248 17 = some (.iload_n 1, 0, 0, 0) := rfl
theorem f248_18 : fetch 248 18 = some (.baload, 0, 0, 0) := rfl
theorem f248_19 : fetch 248 19 = some (.bipush 97, 0, 0, 0) := rfl
theorem f248_21 : fetch 248 21 = some (.if_icmp .lt 20, 41, 0, 0) := rfl
theorem f248_24 : fetch 248 24 = some (.aload_n 0, 0, 0, 0) := rfl
theorem f248_25 : fetch 248 25 = some (.getfield 128, 12, 51, 2) := rfl
theorem f248_28 : fetch 248 28 = some (.iload_n 1, 0, 0, 0) := rfl
theorem f248_29 : fetch 248 29 = some (.baload, 0, 0, 0) := rfl
theorem f248_30 : fetch 248 30 = some (.bipush 122, 0, 0, 0) := rfl
theorem f248_32 : fetch 248 32 = some (.if_icmp .gt 9, 41, 0, 0) := rfl
theorem f248_35 : fetch 248 35 = some (.iinc 1 1, 0, 0, 0) := rfl
theorem f248_38 : fetch 248 38 = some (.goto (-33), 5, 0, 0) := rfl
theorem f248_41 : fetch 248 41 = some (.iload_n 1, 0, 0, 0) := rfl
theorem f248_42 : fetch 248 42 = some (.ireturn, 0, 0, 0) := rfl
set_option maxRecDepth 100000 in
set_option maxHeartbeats 4000000 in
theorem p248_L5_ok (d : Nat) (F : Nat) (h : HS) (w : WF h)  : ∀ (n : Nat) (v1 : Int32) (r : Int32), p248_L5 F n h v1 = some r → ex (d + 0) 248 (5, [some (.ref (86)), some (.int (v1))], [], h) = some (some (.int (r)), h) := by
  intro n
  induction n with
  | zero => intro v1 r hp; cases hp
  | succ n ih =>
    intro v1 r hp
    unfold p248_L5 at hp
    refine e_iload_n f248_5 rfl ?_
    refine e_aload_n f248_6 rfl ?_
    refine e_getI f248_7 (WF.t w 86 (by decide)) (by decide) ?_
    by_cases hc1 : (v1) < ((hI (h) (86) 52) : Int32)
    · rw [if_pos hc1] at hp
      refine e_icmp_ge_f f248_10 hc1 ?_
      refine e_aload_n f248_13 rfl ?_
      refine e_getR f248_14 (WF.t w 86 (by decide)) rfl (WF.r (q := 126) w 86 51 (by decide)) ?_
      refine e_iload_n f248_17 rfl ?_
      by_cases hg2 : (v1) < (0 : Int32) ∨ 400 ≤ (v1).toNatClampNeg
      · rw [if_pos hg2] at hp; cases hp
      rw [if_neg hg2] at hp
      refine e_baload f248_18 (Or.inl (WF.t w 126 (by decide))) (WF.n w 126 (by decide)) hg2 ?_
      refine e_bipush (v := 97) f248_19 (by decide) ?_
      by_cases hc3 : (hI (h) (126) (v1).toNatClampNeg) < ((97) : Int32)
      · rw [if_pos hc3] at hp
        refine e_icmp_lt_t f248_21 hc3 ?_
        refine e_iload_n f248_41 rfl ?_
        have hp := Option.some.inj hp
        subst hp
        exact e_ireturn f248_42 (Or.inl rfl)
      · rw [if_neg hc3] at hp
        refine e_icmp_lt_f f248_21 hc3 ?_
        refine e_aload_n f248_24 rfl ?_
        refine e_getR f248_25 (WF.t w 86 (by decide)) rfl (WF.r (q := 126) w 86 51 (by decide)) ?_
        refine e_iload_n f248_28 rfl ?_
        by_cases hg4 : (v1) < (0 : Int32) ∨ 400 ≤ (v1).toNatClampNeg
        · rw [if_pos hg4] at hp; cases hp
        rw [if_neg hg4] at hp
        refine e_baload f248_29 (Or.inl (WF.t w 126 (by decide))) (WF.n w 126 (by decide)) hg4 ?_
        refine e_bipush (v := 122) f248_30 (by decide) ?_
        by_cases hc5 : (122) < ((hI (h) (126) (v1).toNatClampNeg) : Int32)
        · rw [if_pos hc5] at hp
          refine e_icmp_gt_t f248_32 hc5 ?_
          refine e_iload_n f248_41 rfl ?_
          have hp := Option.some.inj hp
          subst hp
          exact e_ireturn f248_42 (Or.inl rfl)
        · rw [if_neg hc5] at hp
          refine e_icmp_gt_f f248_32 hc5 ?_
          refine e_iinc (ls2 := [some (.ref (86)), some (.int ((v1) + 1))]) f248_35 (by decide) rfl rfl ?_
          refine e_goto f248_38 ?_
          refine ex_weak (ls := [some (.ref (86)), some (.int ((v1) + 1))]) (le2_ok ⟨Or.inr rfl, Or.inr rfl, trivial⟩) ?_
          exact ih ((v1) + 1) _ hp
    · rw [if_neg hc1] at hp
      refine e_icmp_ge_t f248_10 hc1 ?_
      refine e_iload_n f248_41 rfl ?_
      have hp := Option.some.inj hp
      subst hp
      exact e_ireturn f248_42 (Or.inl rfl)
set_option maxRecDepth 100000 in
set_option maxHeartbeats 4000000 in
theorem p248_ok (d : Nat) (F : Nat) (h : HS) (w : WF h) (r : Int32) (hp : p248 F h = some r) : ex (d + 0) 248 (ent 248 [.ref (86)] h) = some (some (.int (r)), h) := by
  rw [show ent 248 [.ref (86)] h = (0, [some (.ref (86)), none], [], h) from by  rfl]
  refine ex_weak (ls := [some (.ref (86)), none]) (le2_ok ⟨Or.inr rfl, Or.inr rfl, trivial⟩) ?_
  unfold p248 at hp
  refine e_aload_n f248_0 rfl ?_
  refine e_getI f248_1 (WF.t w 86 (by decide)) (by decide) ?_
  refine e_istore_n (ls2 := [some (.ref (86)), some (.int (hI (h) (86) 53))]) f248_4 (Nat.le_of_ble_eq_true rfl) rfl ?_
  refine ex_weak (ls := [some (.ref (86)), some (.int (hI (h) (86) 53))]) (le2_ok ⟨Or.inr rfl, Or.inr rfl, trivial⟩) ?_
  exact p248_L5_ok d F (h) (w) F (hI (h) (86) 53) _ hp
theorem f249_0 : fetch 249 0 = some (.iload_n 2, 0, 0, 0) := rfl
theorem f249_1 : fetch 249 1 = some (.aload_n 0, 0, 0, 0) := rfl
theorem f249_2 : fetch 249 2 = some (.getfield 384, 12, 53, 0) := rfl
theorem f249_5 : fetch 249 5 = some (.isub, 0, 0, 0) := rfl
theorem f249_6 : fetch 249 6 = some (.aload_n 1, 0, 0, 0) := rfl
theorem f249_7 : fetch 249 7 = some (.invokevirtual 390, 0, 0, 6) := rfl
theorem f249_10 : fetch 249 10 = some (.if_icmp .ne 7, 17, 0, 0) := rfl
theorem f249_13 : fetch 249 13 = some (.iconst 1, 0, 0, 0) := rfl
theorem f249_14 : fetch 249 14 = some (.goto 4, 18, 0, 0) := rfl
theorem f249_17 : fetch 249 17 = some (.iconst 0, 0, 0, 0) := rfl
theorem f249_18 : fetch 249 18 = some (.istore_n 3, 0, 0, 0) := rfl
theorem f249_19 : fetch 249 19 = some (.iconst 0, 0, 0, 0) := rfl
theorem f249_20 : fetch 249 20 = some (.istore 4, 0, 0, 0) := rfl
theorem f249_22 : fetch 249 22 = some (.iload 4, 0, 0, 0) := rfl
theorem f249_24 : fetch 249 24 = some (.aload_n 1, 0, 0, 0) := rfl
theorem f249_25 : fetch 249 25 = some (.invokevirtual 390, 0, 0, 6) := rfl
theorem f249_28 : fetch 249 28 = some (.if_icmp .ge 40, 68, 0, 0) := rfl
theorem f249_31 : fetch 249 31 = some (.iload_n 3, 0, 0, 0) := rfl
theorem f249_32 : fetch 249 32 = some (.ifCond .eq 36, 68, 0, 0) := rfl
theorem f249_35 : fetch 249 35 = some (.aload_n 0, 0, 0, 0) := rfl
theorem f249_36 : fetch 249 36 = some (.getfield 128, 12, 51, 2) := rfl
theorem f249_39 : fetch 249 39 = some (.aload_n 0, 0, 0, 0) := rfl
theorem f249_40 : fetch 249 40 = some (.getfield 384, 12, 53, 0) := rfl
theorem f249_43 : fetch 249 43 = some (.iload 4, 0, 0, 0) := rfl
theorem f249_45 : fetch 249 45 = some (.iadd, 0, 0, 0) := rfl
theorem f249_46 : fetch 249 46 = some (.baload, 0, 0, 0) := rfl
theorem f249_47 : fetch 249 47 = some (.aload_n 1, 0, 0, 0) := rfl
theorem f249_48 : fetch 249 48 = some (.iload 4, 0, 0, 0) := rfl
theorem f249_50 : fetch 249 50 = some (.invokevirtual 395, 0, 1, 7) := rfl
theorem f249_53 : fetch 249 53 = some (.if_icmp .ne 7, 60, 0, 0) := rfl
theorem f249_56 : fetch 249 56 = some (.iconst 1, 0, 0, 0) := rfl
theorem f249_57 : fetch 249 57 = some (.goto 4, 61, 0, 0) := rfl
theorem f249_60 : fetch 249 60 = some (.iconst 0, 0, 0, 0) := rfl
theorem f249_61 : fetch 249 61 = some (.istore_n 3, 0, 0, 0) := rfl
theorem f249_62 : fetch 249 62 = some (.iinc 4 1, 0, 0, 0) := rfl
theorem f249_65 : fetch 249 65 = some (.goto (-43), 22, 0, 0) := rfl
theorem f249_68 : fetch 249 68 = some (.iload_n 3, 0, 0, 0) := rfl
theorem f249_69 : fetch 249 69 = some (.ireturn, 0, 0, 1) := rfl
set_option maxRecDepth 100000 in
set_option maxHeartbeats 4000000 in
theorem p249_j61_ok (d : Nat) (F : Nat) (a0 : Option Nat) (a1 : Int32) (K22 : Int32 → Int32 → Option (Int32)) (h : HS) (w : WF h) (hK22 : ∀ (u3 : Int32) (u4 : Int32) (r : Int32), K22 u3 u4 = some r → ex (d + 0) 249 (22, [some (.ref (86)), some (va_rf (a0)), none, some (.int (u3)), some (.int (u4))], [], h) = some (some (.int (r)), h)) (v4 : Int32) (s0 : Int32) (r : Int32) (hp : p249_j61 F a0 a1 K22 h v4 s0 = some r) : ex (d + 0) 249 (61, [some (.ref (86)), some (va_rf (a0)), none, none, some (.int (v4))], [.int (s0)], h) = some (some (.int (r)), h) := by
  unfold p249_j61 at hp
  refine e_istore_n (ls2 := [some (.ref (86)), some (va_rf (a0)), none, some (.int (s0)), some (.int (v4))]) f249_61 (Nat.le_of_ble_eq_true rfl) rfl ?_
  refine e_iinc (ls2 := [some (.ref (86)), some (va_rf (a0)), none, some (.int (s0)), some (.int ((v4) + 1))]) f249_62 (by decide) rfl rfl ?_
  refine e_goto f249_65 ?_
  refine ex_weak (ls := [some (.ref (86)), some (va_rf (a0)), none, some (.int (s0)), some (.int ((v4) + 1))]) (le2_ok ⟨Or.inr rfl, Or.inr rfl, Or.inl rfl, Or.inr rfl, Or.inr rfl, trivial⟩) ?_
  exact hK22 (s0) ((v4) + 1) _ hp
set_option maxRecDepth 100000 in
set_option maxHeartbeats 4000000 in
theorem p249_L22_ok (d : Nat) (F : Nat) (a0 : Option Nat) (a1 : Int32) (h : HS) (w : WF h)  : ∀ (n : Nat) (v3 : Int32) (v4 : Int32) (r : Int32), p249_L22 F a0 a1 n h v3 v4 = some r → ex (d + 0) 249 (22, [some (.ref (86)), some (va_rf (a0)), none, some (.int (v3)), some (.int (v4))], [], h) = some (some (.int (r)), h) := by
  intro n
  induction n with
  | zero => intro v3 v4 r hp; cases hp
  | succ n ih =>
    intro v3 v4 r hp
    unfold p249_L22 at hp
    refine e_iload f249_22 rfl ?_
    refine e_qload_n f249_24 rfl ?_
    obtain ⟨o5, ho6, hp⟩ := bind_some hp
    try dsimp only at hp
    rw [ho6]
    by_cases hg7 : hT (h) (o5) = 41
    rotate_left
    · rw [if_neg hg7] at hp; cases hp
    rw [if_pos hg7] at hp
    refine e_slen f249_25 rfl hg7 (Nat.le_of_ble_eq_true rfl) ?_
    by_cases hc8 : (v4) < ((Int32.ofNat (hN (h) (o5))) : Int32)
    · rw [if_pos hc8] at hp
      refine e_icmp_ge_f f249_28 hc8 ?_
      refine e_iload_n f249_31 rfl ?_
      by_cases hc9 : (v3) = (0 : Int32)
      · rw [if_pos hc9] at hp
        refine e_if_eq_t f249_32 hc9 ?_
        refine e_iload_n f249_68 rfl ?_
        by_cases hg10 : (v3) = (0 : Int32) ∨ (v3) = (1 : Int32)
        rotate_left
        · rw [if_neg hg10] at hp; cases hp
        rw [if_pos hg10] at hp
        have hp := Option.some.inj hp
        subst hp
        exact e_ireturn f249_69 (Or.inr hg10)
      · rw [if_neg hc9] at hp
        refine e_if_eq_f f249_32 hc9 ?_
        refine e_aload_n f249_35 rfl ?_
        refine e_getR f249_36 (WF.t w 86 (by decide)) rfl (WF.r (q := 126) w 86 51 (by decide)) ?_
        refine e_aload_n f249_39 rfl ?_
        refine e_getI f249_40 (WF.t w 86 (by decide)) (by decide) ?_
        refine e_iload f249_43 rfl ?_
        refine e_iadd f249_45 ?_
        by_cases hg11 : ((hI (h) (86) 53) + (v4)) < (0 : Int32) ∨ 400 ≤ ((hI (h) (86) 53) + (v4)).toNatClampNeg
        · rw [if_pos hg11] at hp; cases hp
        rw [if_neg hg11] at hp
        refine e_baload f249_46 (Or.inl (WF.t w 126 (by decide))) (WF.n w 126 (by decide)) hg11 ?_
        refine e_aload_n f249_47 rfl ?_
        refine e_iload f249_48 rfl ?_
        by_cases hg12 : (v4) < (0 : Int32) ∨ hN (h) (o5) ≤ (v4).toNatClampNeg
        · rw [if_pos hg12] at hp; cases hp
        rw [if_neg hg12] at hp
        refine e_sch f249_50 rfl hg7 (Nat.le_of_ble_eq_true rfl) hg12 ?_
        by_cases hc13 : (hI (h) (126) ((hI (h) (86) 53) + (v4)).toNatClampNeg) = ((hI (h) (o5) (v4).toNatClampNeg) : Int32)
        · rw [if_pos hc13] at hp
          refine e_icmp_ne_f f249_53 hc13 ?_
          refine e_iconst (v := 1) f249_56 (by decide) ?_
          refine e_goto f249_57 ?_
          refine ex_weak (ls := [some (.ref (86)), some (va_rf (a0)), none, none, some (.int (v4))]) (le2_ok ⟨Or.inr rfl, Or.inr (congrArg (fun z => some (va_rf z)) ho6), Or.inl rfl, Or.inl rfl, Or.inr rfl, trivial⟩) ?_
          exact p249_j61_ok d F a0 a1 ((p249_L22 F a0 a1 n h)) (h) (w) (ih) (v4) (1) _ hp
        · rw [if_neg hc13] at hp
          refine e_icmp_ne_t f249_53 hc13 ?_
          refine e_iconst (v := 0) f249_60 (by decide) ?_
          refine ex_weak (ls := [some (.ref (86)), some (va_rf (a0)), none, none, some (.int (v4))]) (le2_ok ⟨Or.inr rfl, Or.inr (congrArg (fun z => some (va_rf z)) ho6), Or.inl rfl, Or.inl rfl, Or.inr rfl, trivial⟩) ?_
          exact p249_j61_ok d F a0 a1 ((p249_L22 F a0 a1 n h)) (h) (w) (ih) (v4) (0) _ hp
    · rw [if_neg hc8] at hp
      refine e_icmp_ge_t f249_28 hc8 ?_
      refine e_iload_n f249_68 rfl ?_
      by_cases hg14 : (v3) = (0 : Int32) ∨ (v3) = (1 : Int32)
      rotate_left
      · rw [if_neg hg14] at hp; cases hp
      rw [if_pos hg14] at hp
      have hp := Option.some.inj hp
      subst hp
      exact e_ireturn f249_69 (Or.inr hg14)
set_option maxRecDepth 100000 in
set_option maxHeartbeats 4000000 in
theorem p249_j18_ok (d : Nat) (F : Nat) (a0 : Option Nat) (a1 : Int32) (h : HS) (w : WF h)  (s0 : Int32) (r : Int32) (hp : p249_j18 F a0 a1 h s0 = some r) : ex (d + 0) 249 (18, [some (.ref (86)), some (va_rf (a0)), none, none, none], [.int (s0)], h) = some (some (.int (r)), h) := by
  unfold p249_j18 at hp
  refine e_istore_n (ls2 := [some (.ref (86)), some (va_rf (a0)), none, some (.int (s0)), none]) f249_18 (Nat.le_of_ble_eq_true rfl) rfl ?_
  refine e_iconst (v := 0) f249_19 (by decide) ?_
  refine e_istore (ls2 := [some (.ref (86)), some (va_rf (a0)), none, some (.int (s0)), some (.int (0))]) f249_20 (Nat.le_of_ble_eq_true rfl) rfl ?_
  refine ex_weak (ls := [some (.ref (86)), some (va_rf (a0)), none, some (.int (s0)), some (.int (0))]) (le2_ok ⟨Or.inr rfl, Or.inr rfl, Or.inl rfl, Or.inr rfl, Or.inr rfl, trivial⟩) ?_
  exact p249_L22_ok d F a0 a1 (h) (w) F (s0) (0) _ hp
set_option maxRecDepth 100000 in
set_option maxHeartbeats 4000000 in
theorem p249_ok (d : Nat) (F : Nat) (h : HS) (w : WF h) (a0 : Option Nat) (a1 : Int32) (r : Int32) (hp : p249 F h a0 a1 = some r) : ex (d + 0) 249 (ent 249 [.ref (86), va_rf (a0), .int (a1)] h) = some (some (.int (r)), h) := by
  rw [show ent 249 [.ref (86), va_rf (a0), .int (a1)] h = (0, [some (.ref (86)), some (va_rf (a0)), some (.int (a1)), none, none], [], h) from by cases a0 <;> rfl]
  refine ex_weak (ls := [some (.ref (86)), some (va_rf (a0)), some (.int (a1)), none, none]) (le2_ok ⟨Or.inr rfl, Or.inr rfl, Or.inr rfl, Or.inr rfl, Or.inr rfl, trivial⟩) ?_
  unfold p249 at hp
  refine e_iload_n f249_0 rfl ?_
  refine e_aload_n f249_1 rfl ?_
  refine e_getI f249_2 (WF.t w 86 (by decide)) (by decide) ?_
  refine e_isub f249_5 ?_
  refine e_qload_n f249_6 rfl ?_
  obtain ⟨o1, ho2, hp⟩ := bind_some hp
  try dsimp only at hp
  rw [ho2]
  by_cases hg3 : hT (h) (o1) = 41
  rotate_left
  · rw [if_neg hg3] at hp; cases hp
  rw [if_pos hg3] at hp
  refine e_slen f249_7 rfl hg3 (Nat.le_of_ble_eq_true rfl) ?_
  by_cases hc4 : ((a1) - (hI (h) (86) 53)) = ((Int32.ofNat (hN (h) (o1))) : Int32)
  · rw [if_pos hc4] at hp
    refine e_icmp_ne_f f249_10 hc4 ?_
    refine e_iconst (v := 1) f249_13 (by decide) ?_
    refine e_goto f249_14 ?_
    refine ex_weak (ls := [some (.ref (86)), some (va_rf (a0)), none, none, none]) (le2_ok ⟨Or.inr rfl, Or.inr (congrArg (fun z => some (va_rf z)) ho2), Or.inl rfl, Or.inl rfl, Or.inl rfl, trivial⟩) ?_
    exact p249_j18_ok d F a0 a1 (h) (w) (1) _ hp
  · rw [if_neg hc4] at hp
    refine e_icmp_ne_t f249_10 hc4 ?_
    refine e_iconst (v := 0) f249_17 (by decide) ?_
    refine ex_weak (ls := [some (.ref (86)), some (va_rf (a0)), none, none, none]) (le2_ok ⟨Or.inr rfl, Or.inr (congrArg (fun z => some (va_rf z)) ho2), Or.inl rfl, Or.inl rfl, Or.inl rfl, trivial⟩) ?_
    exact p249_j18_ok d F a0 a1 (h) (w) (0) _ hp
theorem f250_0 : fetch 250 0 = some (.iload_n 0, 0, 0, 0) := rfl
theorem f250_1 : fetch 250 1 = some (.tableswitch 95 0 9 #[55, 59, 63, 67, 71, 75, 79, 83, 87, 91], 0, 0, 0) := rfl
theorem f250_56 : fetch 250 56 = some (.ldc_w 399, 11, 1, 0) := rfl
theorem f250_59 : fetch 250 59 = some (.areturn, 0, 0, 0) := rfl
theorem f250_60 : fetch 250 60 = some (.ldc_w 401, 12, 1, 0) := rfl
theorem f250_63 : fetch 250 63 = some (.areturn, 0, 0, 0) := rfl
theorem f250_64 : fetch 250 64 = some (.ldc_w 403, 13, 1, 0) := rfl
theorem f250_67 : fetch 250 67 = some (.areturn, 0, 0, 0) := rfl
theorem f250_68 : fetch 250 68 = some (.ldc_w 405, 14, 1, 0) := rfl
theorem f250_71 : fetch 250 71 = some (.areturn, 0, 0, 0) := rfl
theorem f250_72 : fetch 250 72 = some (.ldc_w 407, 15, 1, 0) := rfl
theorem f250_75 : fetch 250 75 = some (.areturn, 0, 0, 0) := rfl
theorem f250_76 : fetch 250 76 = some (.ldc_w 409, 16, 1, 0) := rfl
theorem f250_79 : fetch 250 79 = some (.areturn, 0, 0, 0) := rfl
theorem f250_80 : fetch 250 80 = some (.ldc_w 411, 17, 1, 0) := rfl
theorem f250_83 : fetch 250 83 = some (.areturn, 0, 0, 0) := rfl
theorem f250_84 : fetch 250 84 = some (.ldc_w 413, 18, 1, 0) := rfl
theorem f250_87 : fetch 250 87 = some (.areturn, 0, 0, 0) := rfl
theorem f250_88 : fetch 250 88 = some (.ldc_w 414, 19, 1, 0) := rfl
theorem f250_91 : fetch 250 91 = some (.areturn, 0, 0, 0) := rfl
theorem f250_92 : fetch 250 92 = some (.ldc_w 415, 20, 1, 0) := rfl
theorem f250_95 : fetch 250 95 = some (.areturn, 0, 0, 0) := rfl
theorem f250_96 : fetch 250 96 = some (.ldc_w 416, 21, 1, 0) := rfl
theorem f250_99 : fetch 250 99 = some (.areturn, 0, 0, 0) := rfl
set_option maxRecDepth 100000 in
set_option maxHeartbeats 4000000 in
theorem p250_ok (d : Nat) (h : HS) (w : WF h) (a0 : Int32) (r : Option Nat) (hp : p250 h a0 = some r) : ex (d + 0) 250 (ent 250 [.int (a0)] h) = some (some (va_rf (r)), h) := by
  rw [show ent 250 [.int (a0)] h = (0, [some (.int (a0))], [], h) from by  rfl]
  refine ex_weak (ls := [some (.int (a0))]) (le2_ok ⟨Or.inr rfl, trivial⟩) ?_
  unfold p250 at hp
  refine e_iload_n f250_0 rfl ?_
  by_cases hc1 : (a0) = (0 : Int32)
  · rw [if_pos hc1] at hp
    refine e_sw (t := 56) f250_1 (by rw [hc1]; decide) (by rw [hc1]; decide) ?_
    refine e_ldcwS f250_56 rfl ?_
    have hp := Option.some.inj hp
    subst hp
    exact e_areturn (v := some (11)) f250_59
  rw [if_neg hc1] at hp
  by_cases hc2 : (a0) = (1 : Int32)
  · rw [if_pos hc2] at hp
    refine e_sw (t := 60) f250_1 (by rw [hc2]; decide) (by rw [hc2]; decide) ?_
    refine e_ldcwS f250_60 rfl ?_
    have hp := Option.some.inj hp
    subst hp
    exact e_areturn (v := some (12)) f250_63
  rw [if_neg hc2] at hp
  by_cases hc3 : (a0) = (2 : Int32)
  · rw [if_pos hc3] at hp
    refine e_sw (t := 64) f250_1 (by rw [hc3]; decide) (by rw [hc3]; decide) ?_
    refine e_ldcwS f250_64 rfl ?_
    have hp := Option.some.inj hp
    subst hp
    exact e_areturn (v := some (13)) f250_67
  rw [if_neg hc3] at hp
  by_cases hc4 : (a0) = (3 : Int32)
  · rw [if_pos hc4] at hp
    refine e_sw (t := 68) f250_1 (by rw [hc4]; decide) (by rw [hc4]; decide) ?_
    refine e_ldcwS f250_68 rfl ?_
    have hp := Option.some.inj hp
    subst hp
    exact e_areturn (v := some (14)) f250_71
  rw [if_neg hc4] at hp
  by_cases hc5 : (a0) = (4 : Int32)
  · rw [if_pos hc5] at hp
    refine e_sw (t := 72) f250_1 (by rw [hc5]; decide) (by rw [hc5]; decide) ?_
    refine e_ldcwS f250_72 rfl ?_
    have hp := Option.some.inj hp
    subst hp
    exact e_areturn (v := some (15)) f250_75
  rw [if_neg hc5] at hp
  by_cases hc6 : (a0) = (5 : Int32)
  · rw [if_pos hc6] at hp
    refine e_sw (t := 76) f250_1 (by rw [hc6]; decide) (by rw [hc6]; decide) ?_
    refine e_ldcwS f250_76 rfl ?_
    have hp := Option.some.inj hp
    subst hp
    exact e_areturn (v := some (16)) f250_79
  rw [if_neg hc6] at hp
  by_cases hc7 : (a0) = (6 : Int32)
  · rw [if_pos hc7] at hp
    refine e_sw (t := 80) f250_1 (by rw [hc7]; decide) (by rw [hc7]; decide) ?_
    refine e_ldcwS f250_80 rfl ?_
    have hp := Option.some.inj hp
    subst hp
    exact e_areturn (v := some (17)) f250_83
  rw [if_neg hc7] at hp
  by_cases hc8 : (a0) = (7 : Int32)
  · rw [if_pos hc8] at hp
    refine e_sw (t := 84) f250_1 (by rw [hc8]; decide) (by rw [hc8]; decide) ?_
    refine e_ldcwS f250_84 rfl ?_
    have hp := Option.some.inj hp
    subst hp
    exact e_areturn (v := some (18)) f250_87
  rw [if_neg hc8] at hp
  by_cases hc9 : (a0) = (8 : Int32)
  · rw [if_pos hc9] at hp
    refine e_sw (t := 88) f250_1 (by rw [hc9]; decide) (by rw [hc9]; decide) ?_
    refine e_ldcwS f250_88 rfl ?_
    have hp := Option.some.inj hp
    subst hp
    exact e_areturn (v := some (19)) f250_91
  rw [if_neg hc9] at hp
  by_cases hc10 : (a0) = (9 : Int32)
  · rw [if_pos hc10] at hp
    refine e_sw (t := 92) f250_1 (by rw [hc10]; decide) (by rw [hc10]; decide) ?_
    refine e_ldcwS f250_92 rfl ?_
    have hp := Option.some.inj hp
    subst hp
    exact e_areturn (v := some (20)) f250_95
  rw [if_neg hc10] at hp
  have ho11 := sw_out (x := a0) 0 9 (fun j h1 h2 => by
    rcases (show j = 0 ∨ j = 1 ∨ j = 2 ∨ j = 3 ∨ j = 4 ∨ j = 5 ∨ j = 6 ∨ j = 7 ∨ j = 8 ∨ j = 9 by omega) with rfl | rfl | rfl | rfl | rfl | rfl | rfl | rfl | rfl | rfl
    · exact i32_ne hc1 (by decide)
    · exact i32_ne hc2 (by decide)
    · exact i32_ne hc3 (by decide)
    · exact i32_ne hc4 (by decide)
    · exact i32_ne hc5 (by decide)
    · exact i32_ne hc6 (by decide)
    · exact i32_ne hc7 (by decide)
    · exact i32_ne hc8 (by decide)
    · exact i32_ne hc9 (by decide)
    · exact i32_ne hc10 (by decide))
  refine e_sw (t := 96) f250_1 ⟨by rw [swTo, if_pos ho11]; decide, by decide⟩ (by rw [swTo, if_pos ho11]; decide) ?_
  refine e_ldcwS f250_96 rfl ?_
  have hp := Option.some.inj hp
  subst hp
  exact e_areturn (v := some (21)) f250_99
theorem f251_0 : fetch 251 0 = some (.iconst 0, 0, 0, 0) := rfl
theorem f251_1 : fetch 251 1 = some (.istore_n 2, 0, 0, 0) := rfl
theorem f251_2 : fetch 251 2 = some (.iconst 0, 0, 0, 0) := rfl
theorem f251_3 : fetch 251 3 = some (.istore_n 3, 0, 0, 0) := rfl
theorem f251_4 : fetch 251 4 = some (.aload_n 0, 0, 0, 0) := rfl
theorem f251_5 : fetch 251 5 = some (.getfield 384, 12, 53, 0) := rfl
theorem f251_8 : fetch 251 8 = some (.aload_n 0, 0, 0, 0) := rfl
theorem f251_9 : fetch 251 9 = some (.getfield 374, 12, 52, 0) := rfl
theorem f251_12 : fetch 251 12 = some (.if_icmp .ge 61, 73, 0, 0) := rfl
theorem f251_15 : fetch 251 15 = some (.aload_n 0, 0, 0, 0) := rfl
theorem f251_16 : fetch 251 16 = some (.getfield 128, 12, 51, 2) := rfl
theorem f251_19 : fetch 251 19 = some (.aload_n 0, 0, 0, 0) := rfl
theorem f251_20 : fetch 251 20 = some (.getfield 384, 12, 53, 0) := rfl
theorem f251_23 : fetch 251 23 = some (.baload, 0, 0, 0) := rfl
theorem f251_24 : fetch 251 24 = some (.invokestatic 418, 247, 1, 1) := rfl
theorem f251_27 : fetch 251 27 = some (.ifCond .eq 46, 73, 0, 0) := rfl
theorem f251_30 : fetch 251 30 = some (.iload_n 3, 0, 0, 0) := rfl
theorem f251_31 : fetch 251 31 = some (.iconst 4, 0, 0, 0) := rfl
theorem f251_32 : fetch 251 32 = some (.if_icmp .ge 23, 55, 0, 0) := rfl
theorem f251_35 : fetch 251 35 = some (.bipush 10, 0, 0, 0) := rfl
theorem f251_37 : fetch 251 37 = some (.iload_n 2, 0, 0, 0) := rfl
theorem f251_38 : fetch 251 38 = some (.imul, 0, 0, 0) := rfl
theorem f251_39 : fetch 251 39 = some (.aload_n 0, 0, 0, 0) := rfl
theorem f251_40 : fetch 251 40 = some (.getfield 128, 12, 51, 2) := rfl
theorem f251_43 : fetch 251 43 = some (.aload_n 0, 0, 0, 0) := rfl
theorem f251_44 : fetch 251 44 = some (.getfield 384, 12, 53, 0) := rfl
theorem f251_47 : fetch 251 47 = some (.baload, 0, 0, 0) := rfl
theorem f251_48 : fetch 251 48 = some (.iadd, 0, 0, 0) := rfl
theorem f251_49 : fetch 251 49 = some (.bipush 48, 0, 0, 0) := rfl
theorem f251_51 : fetch 251 51 = some (.isub, 0, 0, 0) := rfl
theorem f251_52 : fetch 251 52 = some (.goto 4, 56, 0, 0) := rfl
theorem f251_55 : fetch 251 55 = some (.iload_n 2, 0, 0, 0) := rfl
theorem f251_56 : fetch 251 56 = some (.istore_n 2, 0, 0, 0) := rfl
theorem f251_57 : fetch 251 57 = some (.iinc 3 1, 0, 0, 0) := rfl
theorem f251_60 : fetch 251 60 = some (.aload_n 0, 0, 0, 0) := rfl
theorem f251_61 : fetch 251 61 = some (.dup, 0, 0, 0) := rfl
theorem f251_62 : fetch 251 62 = some (.getfield 384, 12, 53, 0) := rfl
theorem f251_65 : fetch 251 65 = some (.iconst 1, 0, 0, 0) := rfl
theorem f251_66 : fetch 251 66 = some (.iadd, 0, 0, 0) := rfl
theorem f251_67 : fetch 251 67 = some (.putfield 384, 12, 53, 0) := rfl
theorem f251_70 : fetch 251 70 = some (.goto (-66), 4, 0, 0) := rfl
theorem f251_73 : fetch 251 73 = some (.iload_n 3, 0, 0, 0) := rfl
theorem f251_74 : fetch 251 74 = some (.iconst 4, 0, 0, 0) := rfl
theorem f251_75 : fetch 251 75 = some (.if_icmp .gt 8, 83, 0, 0) := rfl
theorem f251_78 : fetch 251 78 = some (.iload_n 2, 0, 0, 0) := rfl
theorem f251_79 : fetch 251 79 = some (.iload_n 1, 0, 0, 0) := rfl
theorem f251_80 : fetch 251 80 = some (.if_icmp .le 12, 92, 0, 0) := rfl
theorem f251_83 : fetch 251 83 = some (.aload_n 0, 0, 0, 0) := rfl
theorem f251_84 : fetch 251 84 = some (.iconst 1, 0, 0, 0) := rfl
theorem f251_85 : fetch 251 85 = some (.aload_n 0, 0, 0, 0) := rfl
theorem f251_86 : fetch 251 86 = some (.getfield 387, 12, 54, 0) := rfl
theorem f251_89 : fetch 251 89 = some (.invokevirtual 421, 244, 2, 0) := rfl
theorem f251_92 : fetch 251 92 = some (.iload_n 2, 0, 0, 0) := rfl
theorem f251_93 : fetch 251 93 = some (.ireturn, 0, 0, 0) := rfl
set_option maxRecDepth 100000 in
set_option maxHeartbeats 4000000 in
theorem p251_j56_ok (d : Nat) (F : Nat) (a0 : Int32) (K4 : HS → Int32 → Int32 → Option (Int32 × HS)) (hK4 : ∀ (h : HS) (w : WF h) (u2 : Int32) (u3 : Int32) (r : Int32 × HS), K4 h u2 u3 = some r → ex (d + 1) 251 (4, [some (.ref (86)), some (.int (a0)), some (.int (u2)), some (.int (u3))], [], h) = some (some (.int (r.1)), r.2)) (h : HS) (w : WF h) (v3 : Int32) (s0 : Int32) (r : Int32 × HS) (hp : p251_j56 F a0 K4 h v3 s0 = some r) : ex (d + 1) 251 (56, [some (.ref (86)), some (.int (a0)), none, some (.int (v3))], [.int (s0)], h) = some (some (.int (r.1)), r.2) := by
  unfold p251_j56 at hp
  refine e_istore_n (ls2 := [some (.ref (86)), some (.int (a0)), some (.int (s0)), some (.int (v3))]) f251_56 (Nat.le_of_ble_eq_true rfl) rfl ?_
  refine e_iinc (ls2 := [some (.ref (86)), some (.int (a0)), some (.int (s0)), some (.int ((v3) + 1))]) f251_57 (by decide) rfl rfl ?_
  refine e_aload_n f251_60 rfl ?_
  refine e_dup f251_61 rfl ?_
  refine e_getI f251_62 (WF.t w 86 (by decide)) (by decide) ?_
  refine e_iconst (v := 1) f251_65 (by decide) ?_
  refine e_iadd f251_66 ?_
  refine e_putI f251_67 (WF.t w 86 (by decide)) rfl ?_
  refine e_goto f251_70 ?_
  refine ex_weak (ls := [some (.ref (86)), some (.int (a0)), some (.int (s0)), some (.int ((v3) + 1))]) (le2_ok ⟨Or.inr rfl, Or.inr rfl, Or.inr rfl, Or.inr rfl, trivial⟩) ?_
  exact hK4 (hsI (h) (86) 53 ((hI (h) (86) 53) + (1))) (w) (s0) ((v3) + 1) _ hp
set_option maxRecDepth 100000 in
set_option maxHeartbeats 4000000 in
theorem p251_j56_w (F : Nat) (a0 : Int32) (K4 : HS → Int32 → Int32 → Option (Int32 × HS)) (hK4 : ∀ (h : HS) (w : WF h) (u2 : Int32) (u3 : Int32) (r : Int32 × HS), K4 h u2 u3 = some r → WF r.2) (h : HS) (w : WF h) (v3 : Int32) (s0 : Int32) (r : Int32 × HS) (hp : p251_j56 F a0 K4 h v3 s0 = some r) : WF r.2 := by
  unfold p251_j56 at hp
  exact hK4 (hsI (h) (86) 53 ((hI (h) (86) 53) + (1))) (w) (s0) ((v3) + 1) _ hp
set_option maxRecDepth 100000 in
set_option maxHeartbeats 4000000 in
theorem p251_j83_ok (d : Nat) (F : Nat) (a0 : Int32) (h : HS) (w : WF h) (v2 : Int32) (r : Int32 × HS) (hp : p251_j83 F a0 h v2 = some r) : ex (d + 1) 251 (83, [some (.ref (86)), none, some (.int (v2)), none], [], h) = some (some (.int (r.1)), r.2) := by
  unfold p251_j83 at hp
  refine e_aload_n f251_83 rfl ?_
  refine e_iconst (v := 1) f251_84 (by decide) ?_
  refine e_aload_n f251_85 rfl ?_
  refine e_getI f251_86 (WF.t w 86 (by decide)) (by decide) ?_
  obtain ⟨r10, hr11, hp⟩ := bind_some hp
  try dsimp only at hp
  refine e_callV (st := []) (o := 86) (as := [.int (1), .int (hI (h) (86) 54)]) f251_89 (by decide) rfl rfl (Nat.le_of_ble_eq_true rfl) (WF.t w 86 (by decide)) (Nat.le_of_ble_eq_true rfl) (p244_ok d (h) w (1) (hI (h) (86) 54) r10 hr11) ?_
  show ex _ 251 (92, [some (.ref (86)), none, some (.int (v2)), none], [], r10) = _
  refine e_iload_n f251_92 rfl ?_
  have hp := Option.some.inj hp
  subst hp
  exact e_ireturn f251_93 (Or.inl rfl)
set_option maxRecDepth 100000 in
set_option maxHeartbeats 4000000 in
theorem p251_j83_w (F : Nat) (a0 : Int32) (h : HS) (w : WF h) (v2 : Int32) (r : Int32 × HS) (hp : p251_j83 F a0 h v2 = some r) : WF r.2 := by
  unfold p251_j83 at hp
  obtain ⟨r10, hr11, hp⟩ := bind_some hp
  try dsimp only at hp
  have hp := Option.some.inj hp
  subst hp
  exact ((p244_w (h) w (1) (hI (h) (86) 54)  r10 hr11))
set_option maxRecDepth 100000 in
set_option maxHeartbeats 4000000 in
theorem p251_j73_ok (d : Nat) (F : Nat) (a0 : Int32) (h : HS) (w : WF h) (v2 : Int32) (v3 : Int32) (r : Int32 × HS) (hp : p251_j73 F a0 h v2 v3 = some r) : ex (d + 1) 251 (73, [some (.ref (86)), some (.int (a0)), some (.int (v2)), some (.int (v3))], [], h) = some (some (.int (r.1)), r.2) := by
  unfold p251_j73 at hp
  refine e_iload_n f251_73 rfl ?_
  refine e_iconst (v := 4) f251_74 (by decide) ?_
  by_cases hc8 : (4) < ((v3) : Int32)
  · rw [if_pos hc8] at hp
    refine e_icmp_gt_t f251_75 hc8 ?_
    refine ex_weak (ls := [some (.ref (86)), none, some (.int (v2)), none]) (le2_ok ⟨Or.inr rfl, Or.inl rfl, Or.inr rfl, Or.inl rfl, trivial⟩) ?_
    exact p251_j83_ok d F a0 (h) (w) (v2) _ hp
  · rw [if_neg hc8] at hp
    refine e_icmp_gt_f f251_75 hc8 ?_
    refine e_iload_n f251_78 rfl ?_
    refine e_iload_n f251_79 rfl ?_
    by_cases hc9 : (a0) < ((v2) : Int32)
    · rw [if_pos hc9] at hp
      refine e_icmp_le_f f251_80 hc9 ?_
      refine ex_weak (ls := [some (.ref (86)), none, some (.int (v2)), none]) (le2_ok ⟨Or.inr rfl, Or.inl rfl, Or.inr rfl, Or.inl rfl, trivial⟩) ?_
      exact p251_j83_ok d F a0 (h) (w) (v2) _ hp
    · rw [if_neg hc9] at hp
      refine e_icmp_le_t f251_80 hc9 ?_
      refine e_iload_n f251_92 rfl ?_
      have hp := Option.some.inj hp
      subst hp
      exact e_ireturn f251_93 (Or.inl rfl)
set_option maxRecDepth 100000 in
set_option maxHeartbeats 4000000 in
theorem p251_j73_w (F : Nat) (a0 : Int32) (h : HS) (w : WF h) (v2 : Int32) (v3 : Int32) (r : Int32 × HS) (hp : p251_j73 F a0 h v2 v3 = some r) : WF r.2 := by
  unfold p251_j73 at hp
  by_cases hc8 : (4) < ((v3) : Int32)
  · rw [if_pos hc8] at hp
    exact p251_j83_w F a0 (h) (w) (v2) _ hp
  · rw [if_neg hc8] at hp
    by_cases hc9 : (a0) < ((v2) : Int32)
    · rw [if_pos hc9] at hp
      exact p251_j83_w F a0 (h) (w) (v2) _ hp
    · rw [if_neg hc9] at hp
      have hp := Option.some.inj hp
      subst hp
      exact (w)
set_option maxRecDepth 100000 in
set_option maxHeartbeats 4000000 in
theorem p251_L4_ok (d : Nat) (F : Nat) (a0 : Int32) : ∀ (n : Nat) (h : HS) (w : WF h) (v2 : Int32) (v3 : Int32) (r : Int32 × HS), p251_L4 F a0 n h v2 v3 = some r → ex (d + 1) 251 (4, [some (.ref (86)), some (.int (a0)), some (.int (v2)), some (.int (v3))], [], h) = some (some (.int (r.1)), r.2) := by
  intro n
  induction n with
  | zero => intro h w v2 v3 r hp; cases hp
  | succ n ih =>
    intro h w v2 v3 r hp
    unfold p251_L4 at hp
    refine e_aload_n f251_4 rfl ?_
    refine e_getI f251_5 (WF.t w 86 (by decide)) (by decide) ?_
    refine e_aload_n f251_8 rfl ?_
    refine e_getI f251_9 (WF.t w 86 (by decide)) (by decide) ?_
    by_cases hc1 : (hI (h) (86) 53) < ((hI (h) (86) 52) : Int32)
    · rw [if_pos hc1] at hp
      refine e_icmp_ge_f f251_12 hc1 ?_
      refine e_aload_n f251_15 rfl ?_
      refine e_getR f251_16 (WF.t w 86 (by decide)) rfl (WF.r (q := 126) w 86 51 (by decide)) ?_
      refine e_aload_n f251_19 rfl ?_
      refine e_getI f251_20 (WF.t w 86 (by decide)) (by decide) ?_
      by_cases hg2 : (hI (h) (86) 53) < (0 : Int32) ∨ 400 ≤ (hI (h) (86) 53).toNatClampNeg
      · rw [if_pos hg2] at hp; cases hp
      rw [if_neg hg2] at hp
      refine e_baload f251_23 (Or.inl (WF.t w 126 (by decide))) (WF.n w 126 (by decide)) hg2 ?_
      obtain ⟨r3, hr4, hp⟩ := bind_some hp
      try dsimp only at hp
      refine e_callS (st := []) (as := [.int (hI (h) (126) (hI (h) (86) 53).toNatClampNeg)]) f251_24 (by decide) rfl rfl (Nat.le_of_ble_eq_true rfl) (Nat.le_of_ble_eq_true rfl) (p247_ok d (h) w (hI (h) (126) (hI (h) (86) 53).toNatClampNeg) r3 hr4) ?_
      show ex _ 251 (27, [some (.ref (86)), some (.int (a0)), some (.int (v2)), some (.int (v3))], [.int (r3)], h) = _
      by_cases hc5 : (r3) = (0 : Int32)
      · rw [if_pos hc5] at hp
        refine e_if_eq_t f251_27 hc5 ?_
        refine ex_weak (ls := [some (.ref (86)), some (.int (a0)), some (.int (v2)), some (.int (v3))]) (le2_ok ⟨Or.inr rfl, Or.inr rfl, Or.inr rfl, Or.inr rfl, trivial⟩) ?_
        exact p251_j73_ok d F a0 (h) (w) (v2) (v3) _ hp
      · rw [if_neg hc5] at hp
        refine e_if_eq_f f251_27 hc5 ?_
        refine e_iload_n f251_30 rfl ?_
        refine e_iconst (v := 4) f251_31 (by decide) ?_
        by_cases hc6 : (v3) < ((4) : Int32)
        · rw [if_pos hc6] at hp
          refine e_icmp_ge_f f251_32 hc6 ?_
          refine e_bipush (v := 10) f251_35 (by decide) ?_
          refine e_iload_n f251_37 rfl ?_
          refine e_imul f251_38 ?_
          refine e_aload_n f251_39 rfl ?_
          refine e_getR f251_40 (WF.t w 86 (by decide)) rfl (WF.r (q := 126) w 86 51 (by decide)) ?_
          refine e_aload_n f251_43 rfl ?_
          refine e_getI f251_44 (WF.t w 86 (by decide)) (by decide) ?_
          by_cases hg7 : (hI (h) (86) 53) < (0 : Int32) ∨ 400 ≤ (hI (h) (86) 53).toNatClampNeg
          · rw [if_pos hg7] at hp; cases hp
          rw [if_neg hg7] at hp
          refine e_baload f251_47 (Or.inl (WF.t w 126 (by decide))) (WF.n w 126 (by decide)) hg7 ?_
          refine e_iadd f251_48 ?_
          refine e_bipush (v := 48) f251_49 (by decide) ?_
          refine e_isub f251_51 ?_
          refine e_goto f251_52 ?_
          refine ex_weak (ls := [some (.ref (86)), some (.int (a0)), none, some (.int (v3))]) (le2_ok ⟨Or.inr rfl, Or.inr rfl, Or.inl rfl, Or.inr rfl, trivial⟩) ?_
          exact p251_j56_ok d F a0 ((p251_L4 F a0 n)) (ih) (h) (w) (v3) ((((10) * (v2)) + (hI (h) (126) (hI (h) (86) 53).toNatClampNeg)) - (48)) _ hp
        · rw [if_neg hc6] at hp
          refine e_icmp_ge_t f251_32 hc6 ?_
          refine e_iload_n f251_55 rfl ?_
          refine ex_weak (ls := [some (.ref (86)), some (.int (a0)), none, some (.int (v3))]) (le2_ok ⟨Or.inr rfl, Or.inr rfl, Or.inl rfl, Or.inr rfl, trivial⟩) ?_
          exact p251_j56_ok d F a0 ((p251_L4 F a0 n)) (ih) (h) (w) (v3) (v2) _ hp
    · rw [if_neg hc1] at hp
      refine e_icmp_ge_t f251_12 hc1 ?_
      refine ex_weak (ls := [some (.ref (86)), some (.int (a0)), some (.int (v2)), some (.int (v3))]) (le2_ok ⟨Or.inr rfl, Or.inr rfl, Or.inr rfl, Or.inr rfl, trivial⟩) ?_
      exact p251_j73_ok d F a0 (h) (w) (v2) (v3) _ hp
set_option maxRecDepth 100000 in
set_option maxHeartbeats 4000000 in
theorem p251_L4_w (F : Nat) (a0 : Int32) : ∀ (n : Nat) (h : HS) (w : WF h) (v2 : Int32) (v3 : Int32) (r : Int32 × HS), p251_L4 F a0 n h v2 v3 = some r → WF r.2 := by
  intro n
  induction n with
  | zero => intro h w v2 v3 r hp; cases hp
  | succ n ih =>
    intro h w v2 v3 r hp
    unfold p251_L4 at hp
    by_cases hc1 : (hI (h) (86) 53) < ((hI (h) (86) 52) : Int32)
    · rw [if_pos hc1] at hp
      by_cases hg2 : (hI (h) (86) 53) < (0 : Int32) ∨ 400 ≤ (hI (h) (86) 53).toNatClampNeg
      · rw [if_pos hg2] at hp; cases hp
      rw [if_neg hg2] at hp
      obtain ⟨r3, hr4, hp⟩ := bind_some hp
      try dsimp only at hp
      by_cases hc5 : (r3) = (0 : Int32)
      · rw [if_pos hc5] at hp
        exact p251_j73_w F a0 (h) (w) (v2) (v3) _ hp
      · rw [if_neg hc5] at hp
        by_cases hc6 : (v3) < ((4) : Int32)
        · rw [if_pos hc6] at hp
          by_cases hg7 : (hI (h) (86) 53) < (0 : Int32) ∨ 400 ≤ (hI (h) (86) 53).toNatClampNeg
          · rw [if_pos hg7] at hp; cases hp
          rw [if_neg hg7] at hp
          exact p251_j56_w F a0 ((p251_L4 F a0 n)) (ih) (h) (w) (v3) ((((10) * (v2)) + (hI (h) (126) (hI (h) (86) 53).toNatClampNeg)) - (48)) _ hp
        · rw [if_neg hc6] at hp
          exact p251_j56_w F a0 ((p251_L4 F a0 n)) (ih) (h) (w) (v3) (v2) _ hp
    · rw [if_neg hc1] at hp
      exact p251_j73_w F a0 (h) (w) (v2) (v3) _ hp
set_option maxRecDepth 100000 in
set_option maxHeartbeats 4000000 in
theorem p251_ok (d : Nat) (F : Nat) (h : HS) (w : WF h) (a0 : Int32) (r : Int32 × HS) (hp : p251 F h a0 = some r) : ex (d + 1) 251 (ent 251 [.ref (86), .int (a0)] h) = some (some (.int (r.1)), r.2) := by
  rw [show ent 251 [.ref (86), .int (a0)] h = (0, [some (.ref (86)), some (.int (a0)), none, none], [], h) from by  rfl]
  refine ex_weak (ls := [some (.ref (86)), some (.int (a0)), none, none]) (le2_ok ⟨Or.inr rfl, Or.inr rfl, Or.inr rfl, Or.inr rfl, trivial⟩) ?_
  unfold p251 at hp
  refine e_iconst (v := 0) f251_0 (by decide) ?_
  refine e_istore_n (ls2 := [some (.ref (86)), some (.int (a0)), some (.int (0)), none]) f251_1 (Nat.le_of_ble_eq_true rfl) rfl ?_
  refine e_iconst (v := 0) f251_2 (by decide) ?_
  refine e_istore_n (ls2 := [some (.ref (86)), some (.int (a0)), some (.int (0)), some (.int (0))]) f251_3 (Nat.le_of_ble_eq_true rfl) rfl ?_
  refine ex_weak (ls := [some (.ref (86)), some (.int (a0)), some (.int (0)), some (.int (0))]) (le2_ok ⟨Or.inr rfl, Or.inr rfl, Or.inr rfl, Or.inr rfl, trivial⟩) ?_
  exact p251_L4_ok d F a0 F (h) (w) (0) (0) _ hp
set_option maxRecDepth 100000 in
set_option maxHeartbeats 4000000 in
theorem p251_w (F : Nat) (h : HS) (w : WF h) (a0 : Int32) (r : Int32 × HS) (hp : p251 F h a0 = some r) : WF r.2 := by
  unfold p251 at hp
  exact p251_L4_w F a0 F (h) (w) (0) (0) _ hp
theorem f252_0 : fetch 252 0 = some (.aload_n 0, 0, 0, 0) := rfl
theorem f252_1 : fetch 252 1 = some (.getfield 150, 12, 65, 2) := rfl
theorem f252_4 : fetch 252 4 = some (.sipush 400, 0, 0, 0) := rfl
theorem f252_7 : fetch 252 7 = some (.aload_n 0, 0, 0, 0) := rfl
theorem f252_8 : fetch 252 8 = some (.getfield 424, 12, 58, 0) := rfl
theorem f252_11 : fetch 252 11 = some (.imul, 0, 0, 0) := rfl
theorem f252_12 : fetch 252 12 = some (.aload_n 0, 0, 0, 0) := rfl
theorem f252_13 : fetch 252 13 = some (.getfield 427, 12, 67, 0) := rfl
theorem f252_16 : fetch 252 16 = some (.iadd, 0, 0, 0) := rfl
theorem f252_17 : fetch 252 17 = some (.iload_n 1, 0, 0, 0) := rfl
theorem f252_18 : fetch 252 18 = some (.iastore, 0, 0, 0) := rfl
theorem f252_19 : fetch 252 19 = some (.aload_n 0, 0, 0, 0) := rfl
theorem f252_20 : fetch 252 20 = some (.getfield 153, 12, 66, 2) := rfl
theorem f252_23 : fetch 252 23 = some (.sipush 400, 0, 0, 0) := rfl
theorem f252_26 : fetch 252 26 = some (.aload_n 0, 0, 0, 0) := rfl
theorem f252_27 : fetch 252 27 = some (.getfield 424, 12, 58, 0) := rfl
theorem f252_30 : fetch 252 30 = some (.imul, 0, 0, 0) := rfl
theorem f252_31 : fetch 252 31 = some (.aload_n 0, 0, 0, 0) := rfl
theorem f252_32 : fetch 252 32 = some (.getfield 427, 12, 67, 0) := rfl
theorem f252_35 : fetch 252 35 = some (.iadd, 0, 0, 0) := rfl
theorem f252_36 : fetch 252 36 = some (.iload_n 2, 0, 0, 0) := rfl
theorem f252_37 : fetch 252 37 = some (.iastore, 0, 0, 0) := rfl
theorem f252_38 : fetch 252 38 = some (.aload_n 0, 0, 0, 0) := rfl
theorem f252_39 : fetch 252 39 = some (.dup, 0, 0, 0) := rfl
theorem f252_40 : fetch 252 40 = some (.getfield 427, 12, 67, 0) := rfl
theorem f252_43 : fetch 252 43 = some (.iconst 1, 0, 0, 0) := rfl
theorem f252_44 : fetch 252 44 = some (.iadd, 0, 0, 0) := rfl
theorem f252_45 : fetch 252 45 = some (.putfield 427, 12, 67, 0) := rfl
theorem f252_48 : fetch 252 48 = some (.return_, 0, 0, 0) := rfl
set_option maxRecDepth 100000 in
set_option maxHeartbeats 4000000 in
theorem p252_ok (d : Nat) (h : HS) (w : WF h) (a0 : Int32) (a1 : Int32) (r : HS) (hp : p252 h a0 a1 = some r) : ex (d + 0) 252 (ent 252 [.ref (86), .int (a0), .int (a1)] h) = some (none, r) := by
  rw [show ent 252 [.ref (86), .int (a0), .int (a1)] h = (0, [some (.ref (86)), some (.int (a0)), some (.int (a1))], [], h) from by  rfl]
  refine ex_weak (ls := [some (.ref (86)), some (.int (a0)), some (.int (a1))]) (le2_ok ⟨Or.inr rfl, Or.inr rfl, Or.inr rfl, trivial⟩) ?_
  unfold p252 at hp
  refine e_aload_n f252_0 rfl ?_
  refine e_getR f252_1 (WF.t w 86 (by decide)) rfl (WF.r (q := 133) w 86 65 (by decide)) ?_
  refine e_sipush (v := 400) f252_4 (by decide) ?_
  refine e_aload_n f252_7 rfl ?_
  refine e_getI f252_8 (WF.t w 86 (by decide)) (by decide) ?_
  refine e_imul f252_11 ?_
  refine e_aload_n f252_12 rfl ?_
  refine e_getI f252_13 (WF.t w 86 (by decide)) (by decide) ?_
  refine e_iadd f252_16 ?_
  refine e_iload_n f252_17 rfl ?_
  by_cases hg1 : (((400) * (hI (h) (86) 58)) + (hI (h) (86) 67)) < (0 : Int32) ∨ 8000 ≤ (((400) * (hI (h) (86) 58)) + (hI (h) (86) 67)).toNatClampNeg
  · rw [if_pos hg1] at hp; cases hp
  rw [if_neg hg1] at hp
  refine e_iastore f252_18 (WF.t w 133 (by decide)) (WF.n w 133 (by decide)) hg1 ?_
  refine e_aload_n f252_19 rfl ?_
  refine e_getR f252_20 (WF.t w 86 (by decide)) rfl (WF.r (q := 134) w 86 66 (by decide)) ?_
  refine e_sipush (v := 400) f252_23 (by decide) ?_
  refine e_aload_n f252_26 rfl ?_
  refine e_getI f252_27 (WF.t w 86 (by decide)) (by decide) ?_
  refine e_imul f252_30 ?_
  refine e_aload_n f252_31 rfl ?_
  refine e_getI f252_32 (WF.t w 86 (by decide)) (by decide) ?_
  refine e_iadd f252_35 ?_
  refine e_iload_n f252_36 rfl ?_
  by_cases hg2 : (((400) * (hI (hsI (h) (133) (((400) * (hI (h) (86) 58)) + (hI (h) (86) 67)).toNatClampNeg (a0)) (86) 58)) + (hI (hsI (h) (133) (((400) * (hI (h) (86) 58)) + (hI (h) (86) 67)).toNatClampNeg (a0)) (86) 67)) < (0 : Int32) ∨ 8000 ≤ (((400) * (hI (hsI (h) (133) (((400) * (hI (h) (86) 58)) + (hI (h) (86) 67)).toNatClampNeg (a0)) (86) 58)) + (hI (hsI (h) (133) (((400) * (hI (h) (86) 58)) + (hI (h) (86) 67)).toNatClampNeg (a0)) (86) 67)).toNatClampNeg
  · rw [if_pos hg2] at hp; cases hp
  rw [if_neg hg2] at hp
  refine e_iastore f252_37 (WF.t w 134 (by decide)) (WF.n w 134 (by decide)) hg2 ?_
  obtain ⟨h3, e4, hp⟩ := bind_some hp
  try dsimp only at hp
  have e4 := Option.some.inj e4
  have w5 : WF h3 := e4 ▸ w
  rw [e4]
  refine e_aload_n f252_38 rfl ?_
  refine e_dup f252_39 rfl ?_
  refine e_getI f252_40 (WF.t w5 86 (by decide)) (by decide) ?_
  refine e_iconst (v := 1) f252_43 (by decide) ?_
  refine e_iadd f252_44 ?_
  refine e_putI f252_45 (WF.t w5 86 (by decide)) rfl ?_
  have hp := Option.some.inj hp
  subst hp
  exact e_return f252_48
set_option maxRecDepth 100000 in
set_option maxHeartbeats 4000000 in
theorem p252_w (h : HS) (w : WF h) (a0 : Int32) (a1 : Int32) (r : HS) (hp : p252 h a0 a1 = some r) : WF r := by
  unfold p252 at hp
  by_cases hg1 : (((400) * (hI (h) (86) 58)) + (hI (h) (86) 67)) < (0 : Int32) ∨ 8000 ≤ (((400) * (hI (h) (86) 58)) + (hI (h) (86) 67)).toNatClampNeg
  · rw [if_pos hg1] at hp; cases hp
  rw [if_neg hg1] at hp
  by_cases hg2 : (((400) * (hI (hsI (h) (133) (((400) * (hI (h) (86) 58)) + (hI (h) (86) 67)).toNatClampNeg (a0)) (86) 58)) + (hI (hsI (h) (133) (((400) * (hI (h) (86) 58)) + (hI (h) (86) 67)).toNatClampNeg (a0)) (86) 67)) < (0 : Int32) ∨ 8000 ≤ (((400) * (hI (hsI (h) (133) (((400) * (hI (h) (86) 58)) + (hI (h) (86) 67)).toNatClampNeg (a0)) (86) 58)) + (hI (hsI (h) (133) (((400) * (hI (h) (86) 58)) + (hI (h) (86) 67)).toNatClampNeg (a0)) (86) 67)).toNatClampNeg
  · rw [if_pos hg2] at hp; cases hp
  rw [if_neg hg2] at hp
  obtain ⟨h3, e4, hp⟩ := bind_some hp
  try dsimp only at hp
  have e4 := Option.some.inj e4
  have w5 : WF h3 := e4 ▸ w
  have hp := Option.some.inj hp
  subst hp
  exact (w5)
theorem f253_0 : fetch 253 0 = some (.aload_n 0, 0, 0, 0) := rfl
theorem f253_1 : fetch 253 1 = some (.getfield 156, 12, 69, 2) := rfl
theorem f253_4 : fetch 253 4 = some (.aload_n 0, 0, 0, 0) := rfl
theorem f253_5 : fetch 253 5 = some (.getfield 430, 12, 68, 0) := rfl
theorem f253_8 : fetch 253 8 = some (.iload_n 1, 0, 0, 0) := rfl
theorem f253_9 : fetch 253 9 = some (.iastore, 0, 0, 0) := rfl
theorem f253_10 : fetch 253 10 = some (.aload_n 0, 0, 0, 0) := rfl
theorem f253_11 : fetch 253 11 = some (.dup, 0, 0, 0) := rfl
theorem f253_12 : fetch 253 12 = some (.getfield 430, 12, 68, 0) := rfl
theorem f253_15 : fetch 253 15 = some (.iconst 1, 0, 0, 0) := rfl
theorem f253_16 : fetch 253 16 = some (.iadd, 0, 0, 0) := rfl
theorem f253_17 : fetch 253 17 = some (.putfield 430, 12, 68, 0) := rfl
theorem f253_20 : fetch 253 20 = some (.return_, 0, 0, 0) := rfl
set_option maxRecDepth 100000 in
set_option maxHeartbeats 4000000 in
theorem p253_ok (d : Nat) (h : HS) (w : WF h) (a0 : Int32) (r : HS) (hp : p253 h a0 = some r) : ex (d + 0) 253 (ent 253 [.ref (86), .int (a0)] h) = some (none, r) := by
  rw [show ent 253 [.ref (86), .int (a0)] h = (0, [some (.ref (86)), some (.int (a0))], [], h) from by  rfl]
  refine ex_weak (ls := [some (.ref (86)), some (.int (a0))]) (le2_ok ⟨Or.inr rfl, Or.inr rfl, trivial⟩) ?_
  unfold p253 at hp
  refine e_aload_n f253_0 rfl ?_
  refine e_getR f253_1 (WF.t w 86 (by decide)) rfl (WF.r (q := 135) w 86 69 (by decide)) ?_
  refine e_aload_n f253_4 rfl ?_
  refine e_getI f253_5 (WF.t w 86 (by decide)) (by decide) ?_
  refine e_iload_n f253_8 rfl ?_
  by_cases hg1 : (hI (h) (86) 68) < (0 : Int32) ∨ 400 ≤ (hI (h) (86) 68).toNatClampNeg
  · rw [if_pos hg1] at hp; cases hp
  rw [if_neg hg1] at hp
  refine e_iastore f253_9 (WF.t w 135 (by decide)) (WF.n w 135 (by decide)) hg1 ?_
  refine e_aload_n f253_10 rfl ?_
  refine e_dup f253_11 rfl ?_
  refine e_getI f253_12 (WF.t w 86 (by decide)) (by decide) ?_
  refine e_iconst (v := 1) f253_15 (by decide) ?_
  refine e_iadd f253_16 ?_
  refine e_putI f253_17 (WF.t w 86 (by decide)) rfl ?_
  obtain ⟨h2, e3, hp⟩ := bind_some hp
  try dsimp only at hp
  have e3 := Option.some.inj e3
  have w4 : WF h2 := e3 ▸ w
  rw [e3]
  have hp := Option.some.inj hp
  subst hp
  exact e_return f253_20
set_option maxRecDepth 100000 in
set_option maxHeartbeats 4000000 in
theorem p253_w (h : HS) (w : WF h) (a0 : Int32) (r : HS) (hp : p253 h a0 = some r) : WF r := by
  unfold p253 at hp
  by_cases hg1 : (hI (h) (86) 68) < (0 : Int32) ∨ 400 ≤ (hI (h) (86) 68).toNatClampNeg
  · rw [if_pos hg1] at hp; cases hp
  rw [if_neg hg1] at hp
  obtain ⟨h2, e3, hp⟩ := bind_some hp
  try dsimp only at hp
  have e3 := Option.some.inj e3
  have w4 : WF h2 := e3 ▸ w
  have hp := Option.some.inj hp
  subst hp
  exact (w4)
theorem f254_0 : fetch 254 0 = some (.aload_n 0, 0, 0, 0) := rfl
theorem f254_1 : fetch 254 1 = some (.getfield 430, 12, 68, 0) := rfl
theorem f254_4 : fetch 254 4 = some (.ifCond .ne 7, 11, 0, 0) := rfl
theorem f254_7 : fetch 254 7 = some (.iconst (-1), 0, 0, 0) := rfl
theorem f254_8 : fetch 254 8 = some (.goto 14, 22, 0, 0) := rfl
theorem f254_11 : fetch 254 11 = some (.aload_n 0, 0, 0, 0) := rfl
theorem f254_12 : fetch 254 12 = some (.getfield 156, 12, 69, 2) := rfl
theorem f254_15 : fetch 254 15 = some (.aload_n 0, 0, 0, 0) := rfl
theorem f254_16 : fetch 254 16 = some (.getfield 430, 12, 68, 0) := rfl
theorem f254_19 : fetch 254 19 = some (.iconst 1, 0, 0, 0) := rfl
theorem f254_20 : fetch 254 20 = some (.isub, 0, 0, 0) := rfl
theorem f254_21 : fetch 254 21 = some (.iaload, 0, 0, 0) := rfl
theorem f254_22 : fetch 254 22 = some (.ireturn, 0, 0, 0) := rfl
set_option maxRecDepth 100000 in
set_option maxHeartbeats 4000000 in
theorem p254_ok (d : Nat) (h : HS) (w : WF h) (r : Int32) (hp : p254 h = some r) : ex (d + 0) 254 (ent 254 [.ref (86)] h) = some (some (.int (r)), h) := by
  rw [show ent 254 [.ref (86)] h = (0, [some (.ref (86))], [], h) from by  rfl]
  refine ex_weak (ls := [some (.ref (86))]) (le2_ok ⟨Or.inr rfl, trivial⟩) ?_
  unfold p254 at hp
  refine e_aload_n f254_0 rfl ?_
  refine e_getI f254_1 (WF.t w 86 (by decide)) (by decide) ?_
  by_cases hc1 : (hI (h) (86) 68) = (0 : Int32)
  · rw [if_pos hc1] at hp
    refine e_if_ne_f f254_4 hc1 ?_
    refine e_iconst (v := -1) f254_7 (by decide) ?_
    refine e_goto f254_8 ?_
    have hp := Option.some.inj hp
    subst hp
    exact e_ireturn f254_22 (Or.inl rfl)
  · rw [if_neg hc1] at hp
    refine e_if_ne_t f254_4 hc1 ?_
    refine e_aload_n f254_11 rfl ?_
    refine e_getR f254_12 (WF.t w 86 (by decide)) rfl (WF.r (q := 135) w 86 69 (by decide)) ?_
    refine e_aload_n f254_15 rfl ?_
    refine e_getI f254_16 (WF.t w 86 (by decide)) (by decide) ?_
    refine e_iconst (v := 1) f254_19 (by decide) ?_
    refine e_isub f254_20 ?_
    by_cases hg2 : ((hI (h) (86) 68) - (1)) < (0 : Int32) ∨ 400 ≤ ((hI (h) (86) 68) - (1)).toNatClampNeg
    · rw [if_pos hg2] at hp; cases hp
    rw [if_neg hg2] at hp
    refine e_iaload f254_21 (Or.inl (WF.t w 135 (by decide))) (WF.n w 135 (by decide)) hg2 ?_
    have hp := Option.some.inj hp
    subst hp
    exact e_ireturn f254_22 (Or.inl rfl)
theorem f255_0 : fetch 255 0 = some (.iload_n 0, 0, 0, 0) := rfl
theorem f255_1 : fetch 255 1 = some (.bipush 7, 0, 0, 0) := rfl
theorem f255_3 : fetch 255 3 = some (.if_icmp .lt 13, 16, 0, 0) := rfl
theorem f255_6 : fetch 255 6 = some (.iload_n 0, 0, 0, 0) := rfl
theorem f255_7 : fetch 255 7 = some (.bipush 11, 0, 0, 0) := rfl
theorem f255_9 : fetch 255 9 = some (.if_icmp .gt 7, 16, 0, 0) := rfl
theorem f255_12 : fetch 255 12 = some (.iconst 1, 0, 0, 0) := rfl
theorem f255_13 : fetch 255 13 = some (.goto 4, 17, 0, 0) := rfl
theorem f255_16 : fetch 255 16 = some (.iconst 0, 0, 0, 0) := rfl
theorem f255_17 : fetch 255 17 = some (.ireturn, 0, 0, 1) := rfl
set_option maxRecDepth 100000 in
set_option maxHeartbeats 4000000 in
theorem p255_ok (d : Nat) (h : HS) (w : WF h) (a0 : Int32) (r : Int32) (hp : p255 h a0 = some r) : ex (d + 0) 255 (ent 255 [.int (a0)] h) = some (some (.int (r)), h) := by
  rw [show ent 255 [.int (a0)] h = (0, [some (.int (a0))], [], h) from by  rfl]
  refine ex_weak (ls := [some (.int (a0))]) (le2_ok ⟨Or.inr rfl, trivial⟩) ?_
  unfold p255 at hp
  refine e_iload_n f255_0 rfl ?_
  refine e_bipush (v := 7) f255_1 (by decide) ?_
  by_cases hc1 : (a0) < ((7) : Int32)
  · rw [if_pos hc1] at hp
    refine e_icmp_lt_t f255_3 hc1 ?_
    refine e_iconst (v := 0) f255_16 (by decide) ?_
    have hp := Option.some.inj hp
    subst hp
    exact e_ireturn f255_17 (by decide)
  · rw [if_neg hc1] at hp
    refine e_icmp_lt_f f255_3 hc1 ?_
    refine e_iload_n f255_6 rfl ?_
    refine e_bipush (v := 11) f255_7 (by decide) ?_
    by_cases hc2 : (11) < ((a0) : Int32)
    · rw [if_pos hc2] at hp
      refine e_icmp_gt_t f255_9 hc2 ?_
      refine e_iconst (v := 0) f255_16 (by decide) ?_
      have hp := Option.some.inj hp
      subst hp
      exact e_ireturn f255_17 (by decide)
    · rw [if_neg hc2] at hp
      refine e_icmp_gt_f f255_9 hc2 ?_
      refine e_iconst (v := 1) f255_12 (by decide) ?_
      refine e_goto f255_13 ?_
      have hp := Option.some.inj hp
      subst hp
      exact e_ireturn f255_17 (by decide)
theorem f256_0 : fetch 256 0 = some (.aload_n 0, 0, 0, 0) := rfl
theorem f256_1 : fetch 256 1 = some (.getfield 433, 12, 56, 0) := rfl
theorem f256_4 : fetch 256 4 = some (.bipush 10, 0, 0, 0) := rfl
theorem f256_6 : fetch 256 6 = some (.if_icmp .ne 9, 15, 0, 0) := rfl
theorem f256_9 : fetch 256 9 = some (.aload_n 0, 0, 0, 0) := rfl
theorem f256_10 : fetch 256 10 = some (.iconst 2, 0, 0, 0) := rfl
theorem f256_11 : fetch 256 11 = some (.iload_n 1, 0, 0, 0) := rfl
theorem f256_12 : fetch 256 12 = some (.invokevirtual 421, 244, 2, 0) := rfl
theorem f256_15 : fetch 256 15 = some (.aload_n 0, 0, 0, 0) := rfl
theorem f256_16 : fetch 256 16 = some (.dup, 0, 0, 0) := rfl
theorem f256_17 : fetch 256 17 = some (.getfield 433, 12, 56, 0) := rfl
theorem f256_20 : fetch 256 20 = some (.iconst 1, 0, 0, 0) := rfl
theorem f256_21 : fetch 256 21 = some (.iadd, 0, 0, 0) := rfl
theorem f256_22 : fetch 256 22 = some (.putfield 433, 12, 56, 0) := rfl
theorem f256_25 : fetch 256 25 = some (.return_, 0, 0, 0) := rfl
set_option maxRecDepth 100000 in
set_option maxHeartbeats 4000000 in
theorem p256_j15_ok (d : Nat) (a0 : Int32) (h : HS) (w : WF h) (r : HS) (hp : p256_j15 a0 h = some r) : ex (d + 1) 256 (15, [some (.ref (86)), none], [], h) = some (none, r) := by
  unfold p256_j15 at hp
  refine e_aload_n f256_15 rfl ?_
  refine e_dup f256_16 rfl ?_
  refine e_getI f256_17 (WF.t w 86 (by decide)) (by decide) ?_
  refine e_iconst (v := 1) f256_20 (by decide) ?_
  refine e_iadd f256_21 ?_
  refine e_putI f256_22 (WF.t w 86 (by decide)) rfl ?_
  have hp := Option.some.inj hp
  subst hp
  exact e_return f256_25
set_option maxRecDepth 100000 in
set_option maxHeartbeats 4000000 in
theorem p256_j15_w (a0 : Int32) (h : HS) (w : WF h) (r : HS) (hp : p256_j15 a0 h = some r) : WF r := by
  unfold p256_j15 at hp
  have hp := Option.some.inj hp
  subst hp
  exact (w)
set_option maxRecDepth 100000 in
set_option maxHeartbeats 4000000 in
theorem p256_ok (d : Nat) (h : HS) (w : WF h) (a0 : Int32) (r : HS) (hp : p256 h a0 = some r) : ex (d + 1) 256 (ent 256 [.ref (86), .int (a0)] h) = some (none, r) := by
  rw [show ent 256 [.ref (86), .int (a0)] h = (0, [some (.ref (86)), some (.int (a0))], [], h) from by  rfl]
  refine ex_weak (ls := [some (.ref (86)), some (.int (a0))]) (le2_ok ⟨Or.inr rfl, Or.inr rfl, trivial⟩) ?_
  unfold p256 at hp
  refine e_aload_n f256_0 rfl ?_
  refine e_getI f256_1 (WF.t w 86 (by decide)) (by decide) ?_
  refine e_bipush (v := 10) f256_4 (by decide) ?_
  by_cases hc1 : (hI (h) (86) 56) = ((10) : Int32)
  · rw [if_pos hc1] at hp
    refine e_icmp_ne_f f256_6 hc1 ?_
    refine e_aload_n f256_9 rfl ?_
    refine e_iconst (v := 2) f256_10 (by decide) ?_
    refine e_iload_n f256_11 rfl ?_
    obtain ⟨r2, hr3, hp⟩ := bind_some hp
    try dsimp only at hp
    refine e_callV (st := []) (o := 86) (as := [.int (2), .int (a0)]) f256_12 (by decide) rfl rfl (Nat.le_of_ble_eq_true rfl) (WF.t w 86 (by decide)) (Nat.le_of_ble_eq_true rfl) (p244_ok d (h) w (2) (a0) r2 hr3) ?_
    show ex _ 256 (15, [some (.ref (86)), some (.int (a0))], [], r2) = _
    refine ex_weak (ls := [some (.ref (86)), none]) (le2_ok ⟨Or.inr rfl, Or.inl rfl, trivial⟩) ?_
    exact p256_j15_ok d a0 (r2) ((p244_w (h) w (2) (a0)  r2 hr3))  _ hp
  · rw [if_neg hc1] at hp
    refine e_icmp_ne_t f256_6 hc1 ?_
    refine ex_weak (ls := [some (.ref (86)), none]) (le2_ok ⟨Or.inr rfl, Or.inl rfl, trivial⟩) ?_
    exact p256_j15_ok d a0 (h) (w)  _ hp
set_option maxRecDepth 100000 in
set_option maxHeartbeats 4000000 in
theorem p256_w (h : HS) (w : WF h) (a0 : Int32) (r : HS) (hp : p256 h a0 = some r) : WF r := by
  unfold p256 at hp
  by_cases hc1 : (hI (h) (86) 56) = ((10) : Int32)
  · rw [if_pos hc1] at hp
    obtain ⟨r2, hr3, hp⟩ := bind_some hp
    try dsimp only at hp
    exact p256_j15_w a0 (r2) ((p244_w (h) w (2) (a0)  r2 hr3))  _ hp
  · rw [if_neg hc1] at hp
    exact p256_j15_w a0 (h) (w)  _ hp
theorem f257_0 : fetch 257 0 = some (.aload_n 0, 0, 0, 0) := rfl
theorem f257_1 : fetch 257 1 = some (.invokevirtual 436, 254, 0, 0) := rfl
theorem f257_4 : fetch 257 4 = some (.iconst 5, 0, 0, 0) := rfl
theorem f257_5 : fetch 257 5 = some (.if_icmp .eq 23, 28, 0, 0) := rfl
theorem f257_8 : fetch 257 8 = some (.iload_n 1, 0, 0, 0) := rfl
theorem f257_9 : fetch 257 9 = some (.ifCond .ne 46, 55, 0, 0) := rfl
theorem f257_12 : fetch 257 12 = some (.aload_n 0, 0, 0, 0) := rfl
theorem f257_13 : fetch 257 13 = some (.invokevirtual 436, 254, 0, 0) := rfl
theorem f257_16 : fetch 257 16 = some (.iconst 3, 0, 0, 0) := rfl
theorem f257_17 : fetch 257 17 = some (.if_icmp .eq 11, 28, 0, 0) := rfl
theorem f257_20 : fetch 257 20 = some (.aload_n 0, 0, 0, 0) := rfl
theorem f257_21 : fetch 257 21 = some (.invokevirtual 436, 254, 0, 0) := rfl
theorem f257_24 : fetch 257 24 = some (.iconst 4, 0, 0, 0) := rfl
theorem f257_25 : fetch 257 25 = some (.if_icmp .ne 30, 55, 0, 0) := rfl
theorem f257_28 : fetch 257 28 = some (.aload_n 0, 0, 0, 0) := rfl
theorem f257_29 : fetch 257 29 = some (.dup, 0, 0, 0) := rfl
theorem f257_30 : fetch 257 30 = some (.getfield 430, 12, 68, 0) := rfl
theorem f257_33 : fetch 257 33 = some (.iconst 1, 0, 0, 0) := rfl
theorem f257_34 : fetch 257 34 = some (.isub, 0, 0, 0) := rfl
theorem f257_35 : fetch 257 35 = some (.putfield 430, 12, 68, 0) := rfl
theorem f257_38 : fetch 257 38 = some (.aload_n 0, 0, 0, 0) := rfl
theorem f257_39 : fetch 257 39 = some (.aload_n 0, 0, 0, 0) := rfl
theorem f257_40 : fetch 257 40 = some (.getfield 156, 12, 69, 2) := rfl
theorem f257_43 : fetch 257 43 = some (.aload_n 0, 0, 0, 0) := rfl
theorem f257_44 : fetch 257 44 = some (.getfield 430, 12, 68, 0) := rfl
theorem f257_47 : fetch 257 47 = some (.iaload, 0, 0, 0) := rfl
theorem f257_48 : fetch 257 48 = some (.iconst 0, 0, 0, 0) := rfl
theorem f257_49 : fetch 257 49 = some (.invokevirtual 439, 252, 2, 0) := rfl
theorem f257_52 : fetch 257 52 = some (.goto (-52), 0, 0, 0) := rfl
theorem f257_55 : fetch 257 55 = some (.return_, 0, 0, 0) := rfl
set_option maxRecDepth 100000 in
set_option maxHeartbeats 4000000 in
theorem p257_j28_ok (d : Nat) (F : Nat) (a0 : Int32) (K0 : HS → Option (HS)) (hK0 : ∀ (h : HS) (w : WF h) (r : HS), K0 h = some r → ex (d + 1) 257 (0, [some (.ref (86)), some (.int (a0))], [], h) = some (none, r)) (h : HS) (w : WF h) (r : HS) (hp : p257_j28 F a0 K0 h = some r) : ex (d + 1) 257 (28, [some (.ref (86)), some (.int (a0))], [], h) = some (none, r) := by
  unfold p257_j28 at hp
  refine e_aload_n f257_28 rfl ?_
  refine e_dup f257_29 rfl ?_
  refine e_getI f257_30 (WF.t w 86 (by decide)) (by decide) ?_
  refine e_iconst (v := 1) f257_33 (by decide) ?_
  refine e_isub f257_34 ?_
  refine e_putI f257_35 (WF.t w 86 (by decide)) rfl ?_
  refine e_aload_n f257_38 rfl ?_
  refine e_aload_n f257_39 rfl ?_
  refine e_getR f257_40 (WF.t w 86 (by decide)) rfl (WF.r (q := 135) w 86 69 (by decide)) ?_
  refine e_aload_n f257_43 rfl ?_
  refine e_getI f257_44 (WF.t w 86 (by decide)) (by decide) ?_
  by_cases hg11 : (hI (hsI (h) (86) 68 ((hI (h) (86) 68) - (1))) (86) 68) < (0 : Int32) ∨ 400 ≤ (hI (hsI (h) (86) 68 ((hI (h) (86) 68) - (1))) (86) 68).toNatClampNeg
  · rw [if_pos hg11] at hp; cases hp
  rw [if_neg hg11] at hp
  refine e_iaload f257_47 (Or.inl (WF.t w 135 (by decide))) (WF.n w 135 (by decide)) hg11 ?_
  refine e_iconst (v := 0) f257_48 (by decide) ?_
  obtain ⟨r12, hr13, hp⟩ := bind_some hp
  try dsimp only at hp
  refine e_callV (st := []) (o := 86) (as := [.int (hI (hsI (h) (86) 68 ((hI (h) (86) 68) - (1))) (135) (hI (hsI (h) (86) 68 ((hI (h) (86) 68) - (1))) (86) 68).toNatClampNeg), .int (0)]) f257_49 (by decide) rfl rfl (Nat.le_of_ble_eq_true rfl) (WF.t w 86 (by decide)) (Nat.le_of_ble_eq_true rfl) (p252_ok d (hsI (h) (86) 68 ((hI (h) (86) 68) - (1))) w (hI (hsI (h) (86) 68 ((hI (h) (86) 68) - (1))) (135) (hI (hsI (h) (86) 68 ((hI (h) (86) 68) - (1))) (86) 68).toNatClampNeg) (0) r12 hr13) ?_
  show ex _ 257 (52, [some (.ref (86)), some (.int (a0))], [], r12) = _
  refine e_goto f257_52 ?_
  refine ex_weak (ls := [some (.ref (86)), some (.int (a0))]) (le2_ok ⟨Or.inr rfl, Or.inr rfl, trivial⟩) ?_
  exact hK0 (r12) ((p252_w (hsI (h) (86) 68 ((hI (h) (86) 68) - (1))) w (hI (hsI (h) (86) 68 ((hI (h) (86) 68) - (1))) (135) (hI (hsI (h) (86) 68 ((hI (h) (86) 68) - (1))) (86) 68).toNatClampNeg) (0)  r12 hr13))  _ hp
set_option maxRecDepth 100000 in
set_option maxHeartbeats 4000000 in
theorem p257_j28_w (F : Nat) (a0 : Int32) (K0 : HS → Option (HS)) (hK0 : ∀ (h : HS) (w : WF h) (r : HS), K0 h = some r → WF r) (h : HS) (w : WF h) (r : HS) (hp : p257_j28 F a0 K0 h = some r) : WF r := by
  unfold p257_j28 at hp
  by_cases hg11 : (hI (hsI (h) (86) 68 ((hI (h) (86) 68) - (1))) (86) 68) < (0 : Int32) ∨ 400 ≤ (hI (hsI (h) (86) 68 ((hI (h) (86) 68) - (1))) (86) 68).toNatClampNeg
  · rw [if_pos hg11] at hp; cases hp
  rw [if_neg hg11] at hp
  obtain ⟨r12, hr13, hp⟩ := bind_some hp
  try dsimp only at hp
  exact hK0 (r12) ((p252_w (hsI (h) (86) 68 ((hI (h) (86) 68) - (1))) w (hI (hsI (h) (86) 68 ((hI (h) (86) 68) - (1))) (135) (hI (hsI (h) (86) 68 ((hI (h) (86) 68) - (1))) (86) 68).toNatClampNeg) (0)  r12 hr13))  _ hp
set_option maxRecDepth 100000 in
set_option maxHeartbeats 4000000 in
theorem p257_L0_ok (d : Nat) (F : Nat) (a0 : Int32) : ∀ (n : Nat) (h : HS) (w : WF h) (r : HS), p257_L0 F a0 n h = some r → ex (d + 1) 257 (0, [some (.ref (86)), some (.int (a0))], [], h) = some (none, r) := by
  intro n
  induction n with
  | zero => intro h w r hp; cases hp
  | succ n ih =>
    intro h w r hp
    unfold p257_L0 at hp
    refine e_aload_n f257_0 rfl ?_
    obtain ⟨r1, hr2, hp⟩ := bind_some hp
    try dsimp only at hp
    refine e_callV (st := []) (o := 86) (as := []) f257_1 (by decide) rfl rfl (Nat.le_of_ble_eq_true rfl) (WF.t w 86 (by decide)) (Nat.le_of_ble_eq_true rfl) (p254_ok d (h) w r1 hr2) ?_
    show ex _ 257 (4, [some (.ref (86)), some (.int (a0))], [.int (r1)], h) = _
    refine e_iconst (v := 5) f257_4 (by decide) ?_
    by_cases hc3 : (r1) = ((5) : Int32)
    · rw [if_pos hc3] at hp
      refine e_icmp_eq_t f257_5 hc3 ?_
      refine ex_weak (ls := [some (.ref (86)), some (.int (a0))]) (le2_ok ⟨Or.inr rfl, Or.inr rfl, trivial⟩) ?_
      exact p257_j28_ok d F a0 ((p257_L0 F a0 n)) (ih) (h) (w)  _ hp
    · rw [if_neg hc3] at hp
      refine e_icmp_eq_f f257_5 hc3 ?_
      refine e_iload_n f257_8 rfl ?_
      by_cases hc4 : (a0) = (0 : Int32)
      · rw [if_pos hc4] at hp
        refine e_if_ne_f f257_9 hc4 ?_
        refine e_aload_n f257_12 rfl ?_
        obtain ⟨r5, hr6, hp⟩ := bind_some hp
        try dsimp only at hp
        refine e_callV (st := []) (o := 86) (as := []) f257_13 (by decide) rfl rfl (Nat.le_of_ble_eq_true rfl) (WF.t w 86 (by decide)) (Nat.le_of_ble_eq_true rfl) (p254_ok d (h) w r5 hr6) ?_
        show ex _ 257 (16, [some (.ref (86)), some (.int (a0))], [.int (r5)], h) = _
        refine e_iconst (v := 3) f257_16 (by decide) ?_
        by_cases hc7 : (r5) = ((3) : Int32)
        · rw [if_pos hc7] at hp
          refine e_icmp_eq_t f257_17 hc7 ?_
          refine ex_weak (ls := [some (.ref (86)), some (.int (a0))]) (le2_ok ⟨Or.inr rfl, Or.inr rfl, trivial⟩) ?_
          exact p257_j28_ok d F a0 ((p257_L0 F a0 n)) (ih) (h) (w)  _ hp
        · rw [if_neg hc7] at hp
          refine e_icmp_eq_f f257_17 hc7 ?_
          refine e_aload_n f257_20 rfl ?_
          obtain ⟨r8, hr9, hp⟩ := bind_some hp
          try dsimp only at hp
          refine e_callV (st := []) (o := 86) (as := []) f257_21 (by decide) rfl rfl (Nat.le_of_ble_eq_true rfl) (WF.t w 86 (by decide)) (Nat.le_of_ble_eq_true rfl) (p254_ok d (h) w r8 hr9) ?_
          show ex _ 257 (24, [some (.ref (86)), some (.int (a0))], [.int (r8)], h) = _
          refine e_iconst (v := 4) f257_24 (by decide) ?_
          by_cases hc10 : (r8) = ((4) : Int32)
          · rw [if_pos hc10] at hp
            refine e_icmp_ne_f f257_25 hc10 ?_
            refine ex_weak (ls := [some (.ref (86)), some (.int (a0))]) (le2_ok ⟨Or.inr rfl, Or.inr rfl, trivial⟩) ?_
            exact p257_j28_ok d F a0 ((p257_L0 F a0 n)) (ih) (h) (w)  _ hp
          · rw [if_neg hc10] at hp
            refine e_icmp_ne_t f257_25 hc10 ?_
            have hp := Option.some.inj hp
            subst hp
            exact e_return f257_55
      · rw [if_neg hc4] at hp
        refine e_if_ne_t f257_9 hc4 ?_
        have hp := Option.some.inj hp
        subst hp
        exact e_return f257_55
set_option maxRecDepth 100000 in
set_option maxHeartbeats 4000000 in
theorem p257_L0_w (F : Nat) (a0 : Int32) : ∀ (n : Nat) (h : HS) (w : WF h) (r : HS), p257_L0 F a0 n h = some r → WF r := by
  intro n
  induction n with
  | zero => intro h w r hp; cases hp
  | succ n ih =>
    intro h w r hp
    unfold p257_L0 at hp
    obtain ⟨r1, hr2, hp⟩ := bind_some hp
    try dsimp only at hp
    by_cases hc3 : (r1) = ((5) : Int32)
    · rw [if_pos hc3] at hp
      exact p257_j28_w F a0 ((p257_L0 F a0 n)) (ih) (h) (w)  _ hp
    · rw [if_neg hc3] at hp
      by_cases hc4 : (a0) = (0 : Int32)
      · rw [if_pos hc4] at hp
        obtain ⟨r5, hr6, hp⟩ := bind_some hp
        try dsimp only at hp
        by_cases hc7 : (r5) = ((3) : Int32)
        · rw [if_pos hc7] at hp
          exact p257_j28_w F a0 ((p257_L0 F a0 n)) (ih) (h) (w)  _ hp
        · rw [if_neg hc7] at hp
          obtain ⟨r8, hr9, hp⟩ := bind_some hp
          try dsimp only at hp
          by_cases hc10 : (r8) = ((4) : Int32)
          · rw [if_pos hc10] at hp
            exact p257_j28_w F a0 ((p257_L0 F a0 n)) (ih) (h) (w)  _ hp
          · rw [if_neg hc10] at hp
            have hp := Option.some.inj hp
            subst hp
            exact (w)
      · rw [if_neg hc4] at hp
        have hp := Option.some.inj hp
        subst hp
        exact (w)
set_option maxRecDepth 100000 in
set_option maxHeartbeats 4000000 in
theorem p257_ok (d : Nat) (F : Nat) (h : HS) (w : WF h) (a0 : Int32) (r : HS) (hp : p257 F h a0 = some r) : ex (d + 1) 257 (ent 257 [.ref (86), .int (a0)] h) = some (none, r) := by
  rw [show ent 257 [.ref (86), .int (a0)] h = (0, [some (.ref (86)), some (.int (a0))], [], h) from by  rfl]
  refine ex_weak (ls := [some (.ref (86)), some (.int (a0))]) (le2_ok ⟨Or.inr rfl, Or.inr rfl, trivial⟩) ?_
  unfold p257 at hp
  refine ex_weak (ls := [some (.ref (86)), some (.int (a0))]) (le2_ok ⟨Or.inr rfl, Or.inr rfl, trivial⟩) ?_
  exact p257_L0_ok d F a0 F (h) (w)  _ hp
set_option maxRecDepth 100000 in
set_option maxHeartbeats 4000000 in
theorem p257_w (F : Nat) (h : HS) (w : WF h) (a0 : Int32) (r : HS) (hp : p257 F h a0 = some r) : WF r := by
  unfold p257 at hp
  exact p257_L0_w F a0 F (h) (w)  _ hp
theorem f258_0 : fetch 258 0 = some (.aload_n 0, 0, 0, 0) := rfl
theorem f258_1 : fetch 258 1 = some (.getfield 442, 12, 57, 0) := rfl
theorem f258_4 : fetch 258 4 = some (.bipush 80, 0, 0, 0) := rfl
theorem f258_6 : fetch 258 6 = some (.if_icmp .ne 9, 15, 0, 0) := rfl
theorem f258_9 : fetch 258 9 = some (.aload_n 0, 0, 0, 0) := rfl
theorem f258_10 : fetch 258 10 = some (.iconst 3, 0, 0, 0) := rfl
theorem f258_11 : fetch 258 11 = some (.iload_n 1, 0, 0, 0) := rfl
theorem f258_12 : fetch 258 12 = some (.invokevirtual 421, 244, 2, 0) := rfl
theorem f258_15 : fetch 258 15 = some (.aload_n 0, 0, 0, 0) := rfl
theorem f258_16 : fetch 258 16 = some (.dup, 0, 0, 0) := rfl
theorem f258_17 : fetch 258 17 = some (.getfield 442, 12, 57, 0) := rfl
theorem f258_20 : fetch 258 20 = some (.iconst 1, 0, 0, 0) := rfl
theorem f258_21 : fetch 258 21 = some (.iadd, 0, 0, 0) := rfl
theorem f258_22 : fetch 258 22 = some (.putfield 442, 12, 57, 0) := rfl
theorem f258_25 : fetch 258 25 = some (.return_, 0, 0, 0) := rfl
set_option maxRecDepth 100000 in
set_option maxHeartbeats 4000000 in
theorem p258_j15_ok (d : Nat) (a0 : Int32) (h : HS) (w : WF h) (r : HS) (hp : p258_j15 a0 h = some r) : ex (d + 1) 258 (15, [some (.ref (86)), none], [], h) = some (none, r) := by
  unfold p258_j15 at hp
  refine e_aload_n f258_15 rfl ?_
  refine e_dup f258_16 rfl ?_
  refine e_getI f258_17 (WF.t w 86 (by decide)) (by decide) ?_
  refine e_iconst (v := 1) f258_20 (by decide) ?_
  refine e_iadd f258_21 ?_
  refine e_putI f258_22 (WF.t w 86 (by decide)) rfl ?_
  have hp := Option.some.inj hp
  subst hp
  exact e_return f258_25
set_option maxRecDepth 100000 in
set_option maxHeartbeats 4000000 in
theorem p258_j15_w (a0 : Int32) (h : HS) (w : WF h) (r : HS) (hp : p258_j15 a0 h = some r) : WF r := by
  unfold p258_j15 at hp
  have hp := Option.some.inj hp
  subst hp
  exact (w)
set_option maxRecDepth 100000 in
set_option maxHeartbeats 4000000 in
theorem p258_ok (d : Nat) (h : HS) (w : WF h) (a0 : Int32) (r : HS) (hp : p258 h a0 = some r) : ex (d + 1) 258 (ent 258 [.ref (86), .int (a0)] h) = some (none, r) := by
  rw [show ent 258 [.ref (86), .int (a0)] h = (0, [some (.ref (86)), some (.int (a0))], [], h) from by  rfl]
  refine ex_weak (ls := [some (.ref (86)), some (.int (a0))]) (le2_ok ⟨Or.inr rfl, Or.inr rfl, trivial⟩) ?_
  unfold p258 at hp
  refine e_aload_n f258_0 rfl ?_
  refine e_getI f258_1 (WF.t w 86 (by decide)) (by decide) ?_
  refine e_bipush (v := 80) f258_4 (by decide) ?_
  by_cases hc1 : (hI (h) (86) 57) = ((80) : Int32)
  · rw [if_pos hc1] at hp
    refine e_icmp_ne_f f258_6 hc1 ?_
    refine e_aload_n f258_9 rfl ?_
    refine e_iconst (v := 3) f258_10 (by decide) ?_
    refine e_iload_n f258_11 rfl ?_
    obtain ⟨r2, hr3, hp⟩ := bind_some hp
    try dsimp only at hp
    refine e_callV (st := []) (o := 86) (as := [.int (3), .int (a0)]) f258_12 (by decide) rfl rfl (Nat.le_of_ble_eq_true rfl) (WF.t w 86 (by decide)) (Nat.le_of_ble_eq_true rfl) (p244_ok d (h) w (3) (a0) r2 hr3) ?_
    show ex _ 258 (15, [some (.ref (86)), some (.int (a0))], [], r2) = _
    refine ex_weak (ls := [some (.ref (86)), none]) (le2_ok ⟨Or.inr rfl, Or.inl rfl, trivial⟩) ?_
    exact p258_j15_ok d a0 (r2) ((p244_w (h) w (3) (a0)  r2 hr3))  _ hp
  · rw [if_neg hc1] at hp
    refine e_icmp_ne_t f258_6 hc1 ?_
    refine ex_weak (ls := [some (.ref (86)), none]) (le2_ok ⟨Or.inr rfl, Or.inl rfl, trivial⟩) ?_
    exact p258_j15_ok d a0 (h) (w)  _ hp
set_option maxRecDepth 100000 in
set_option maxHeartbeats 4000000 in
theorem p258_w (h : HS) (w : WF h) (a0 : Int32) (r : HS) (hp : p258 h a0 = some r) : WF r := by
  unfold p258 at hp
  by_cases hc1 : (hI (h) (86) 57) = ((80) : Int32)
  · rw [if_pos hc1] at hp
    obtain ⟨r2, hr3, hp⟩ := bind_some hp
    try dsimp only at hp
    exact p258_j15_w a0 (r2) ((p244_w (h) w (3) (a0)  r2 hr3))  _ hp
  · rw [if_neg hc1] at hp
    exact p258_j15_w a0 (h) (w)  _ hp
