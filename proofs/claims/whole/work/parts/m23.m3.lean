theorem f295_0 : fetch 295 0 = some (.aload_n 0, 0, 0, 0) := rfl
theorem f295_1 : fetch 295 1 = some (.getfield 207, 12, 87, 2) := rfl
theorem f295_4 : fetch 295 4 = some (.iload_n 1, 0, 0, 0) := rfl
theorem f295_5 : fetch 295 5 = some (.iaload, 0, 0, 0) := rfl
theorem f295_6 : fetch 295 6 = some (.istore_n 3, 0, 0, 0) := rfl
theorem f295_7 : fetch 295 7 = some (.aload_n 0, 0, 0, 0) := rfl
theorem f295_8 : fetch 295 8 = some (.getfield 213, 12, 89, 2) := rfl
theorem f295_11 : fetch 295 11 = some (.iload_n 1, 0, 0, 0) := rfl
theorem f295_12 : fetch 295 12 = some (.iaload, 0, 0, 0) := rfl
theorem f295_13 : fetch 295 13 = some (.iload_n 2, 0, 0, 0) := rfl
theorem f295_14 : fetch 295 14 = some (.if_icmp .le 45, 59, 0, 0) := rfl
theorem f295_17 : fetch 295 17 = some (.aload_n 0, 0, 0, 0) := rfl
theorem f295_18 : fetch 295 18 = some (.iload_n 3, 0, 0, 0) := rfl
theorem f295_19 : fetch 295 19 = some (.aload_n 0, 0, 0, 0) := rfl
theorem f295_20 : fetch 295 20 = some (.getfield 204, 12, 86, 2) := rfl
theorem f295_23 : fetch 295 23 = some (.iload_n 1, 0, 0, 0) := rfl
theorem f295_24 : fetch 295 24 = some (.iaload, 0, 0, 0) := rfl
theorem f295_25 : fetch 295 25 = some (.iload_n 2, 0, 0, 0) := rfl
theorem f295_26 : fetch 295 26 = some (.invokevirtual 348, 226, 3, 0) := rfl
theorem f295_29 : fetch 295 29 = some (.iconst (-1), 0, 0, 0) := rfl
theorem f295_30 : fetch 295 30 = some (.if_icmp .ne 29, 59, 0, 0) := rfl
theorem f295_33 : fetch 295 33 = some (.aload_n 0, 0, 0, 0) := rfl
theorem f295_34 : fetch 295 34 = some (.iload_n 3, 0, 0, 0) := rfl
theorem f295_35 : fetch 295 35 = some (.iload_n 2, 0, 0, 0) := rfl
theorem f295_36 : fetch 295 36 = some (.invokevirtual 358, 230, 2, 0) := rfl
theorem f295_39 : fetch 295 39 = some (.aload_n 0, 0, 0, 0) := rfl
theorem f295_40 : fetch 295 40 = some (.iload_n 3, 0, 0, 0) := rfl
theorem f295_41 : fetch 295 41 = some (.iload_n 2, 0, 0, 0) := rfl
theorem f295_42 : fetch 295 42 = some (.invokevirtual 583, 231, 2, 0) := rfl
theorem f295_45 : fetch 295 45 = some (.iadd, 0, 0, 0) := rfl
theorem f295_46 : fetch 295 46 = some (.aload_n 0, 0, 0, 0) := rfl
theorem f295_47 : fetch 295 47 = some (.iload_n 3, 0, 0, 0) := rfl
theorem f295_48 : fetch 295 48 = some (.iload_n 2, 0, 0, 0) := rfl
theorem f295_49 : fetch 295 49 = some (.invokevirtual 586, 293, 2, 0) := rfl
theorem f295_52 : fetch 295 52 = some (.if_icmp .lt 7, 59, 0, 0) := rfl
theorem f295_55 : fetch 295 55 = some (.iconst 1, 0, 0, 0) := rfl
theorem f295_56 : fetch 295 56 = some (.goto 4, 60, 0, 0) := rfl
theorem f295_59 : fetch 295 59 = some (.iconst 0, 0, 0, 0) := rfl
theorem f295_60 : fetch 295 60 = some (.ireturn, 0, 0, 1) := rfl
set_option maxRecDepth 100000 in
set_option maxHeartbeats 4000000 in
theorem p295_ok (d : Nat) (F : Nat) (h : HS) (w : WF h) (a0 : Int32) (a1 : Int32) (r : Int32 × HS) (hp : p295 F h a0 a1 = some r) : ex (d + 5) 295 (ent 295 [.ref (86), .int (a0), .int (a1)] h) = some (some (.int (r.1)), r.2) := by
  rw [show ent 295 [.ref (86), .int (a0), .int (a1)] h = (0, [some (.ref (86)), some (.int (a0)), some (.int (a1)), none], [], h) from by  rfl]
  refine ex_weak (ls := [some (.ref (86)), some (.int (a0)), some (.int (a1)), none]) (le2_ok ⟨Or.inr rfl, Or.inr rfl, Or.inr rfl, Or.inr rfl, trivial⟩) ?_
  unfold p295 at hp
  refine e_aload_n f295_0 rfl ?_
  refine e_getR f295_1 (WF.t w 86 (by decide)) rfl (WF.r (q := 150) w 86 87 (by decide)) ?_
  refine e_iload_n f295_4 rfl ?_
  by_cases hg1 : (a0) < (0 : Int32) ∨ 60 ≤ (a0).toNatClampNeg
  · rw [if_pos hg1] at hp; cases hp
  rw [if_neg hg1] at hp
  refine e_iaload f295_5 (Or.inl (WF.t w 150 (by decide))) (WF.n w 150 (by decide)) hg1 ?_
  refine e_istore_n (ls2 := [some (.ref (86)), some (.int (a0)), some (.int (a1)), some (.int (hI (h) (150) (a0).toNatClampNeg))]) f295_6 (Nat.le_of_ble_eq_true rfl) rfl ?_
  refine e_aload_n f295_7 rfl ?_
  refine e_getR f295_8 (WF.t w 86 (by decide)) rfl (WF.r (q := 152) w 86 89 (by decide)) ?_
  refine e_iload_n f295_11 rfl ?_
  by_cases hg2 : (a0) < (0 : Int32) ∨ 60 ≤ (a0).toNatClampNeg
  · rw [if_pos hg2] at hp; cases hp
  rw [if_neg hg2] at hp
  refine e_iaload f295_12 (Or.inl (WF.t w 152 (by decide))) (WF.n w 152 (by decide)) hg2 ?_
  refine e_iload_n f295_13 rfl ?_
  by_cases hc3 : (a1) < ((hI (h) (152) (a0).toNatClampNeg) : Int32)
  · rw [if_pos hc3] at hp
    refine e_icmp_le_f f295_14 hc3 ?_
    refine e_aload_n f295_17 rfl ?_
    refine e_iload_n f295_18 rfl ?_
    refine e_aload_n f295_19 rfl ?_
    refine e_getR f295_20 (WF.t w 86 (by decide)) rfl (WF.r (q := 149) w 86 86 (by decide)) ?_
    refine e_iload_n f295_23 rfl ?_
    by_cases hg4 : (a0) < (0 : Int32) ∨ 60 ≤ (a0).toNatClampNeg
    · rw [if_pos hg4] at hp; cases hp
    rw [if_neg hg4] at hp
    refine e_iaload f295_24 (Or.inl (WF.t w 149 (by decide))) (WF.n w 149 (by decide)) hg4 ?_
    refine e_iload_n f295_25 rfl ?_
    obtain ⟨r5, hr6, hp⟩ := bind_some hp
    try dsimp only at hp
    refine e_callV (st := []) (o := 86) (as := [.int (hI (h) (150) (a0).toNatClampNeg), .int (hI (h) (149) (a0).toNatClampNeg), .int (a1)]) f295_26 (by decide) rfl rfl (Nat.le_of_ble_eq_true rfl) (WF.t w 86 (by decide)) (Nat.le_of_ble_eq_true rfl) (p226_ok (d + 1) F (h) w (hI (h) (150) (a0).toNatClampNeg) (hI (h) (149) (a0).toNatClampNeg) (a1) r5 hr6) ?_
    show ex _ 295 (29, [some (.ref (86)), some (.int (a0)), some (.int (a1)), some (.int (hI (h) (150) (a0).toNatClampNeg))], [.int (r5)], h) = _
    refine e_iconst (v := -1) f295_29 (by decide) ?_
    by_cases hc7 : (r5) = (((-1)) : Int32)
    · rw [if_pos hc7] at hp
      refine e_icmp_ne_f f295_30 hc7 ?_
      refine e_aload_n f295_33 rfl ?_
      refine e_iload_n f295_34 rfl ?_
      refine e_iload_n f295_35 rfl ?_
      obtain ⟨r8, hr9, hp⟩ := bind_some hp
      try dsimp only at hp
      refine e_callV (st := []) (o := 86) (as := [.int (hI (h) (150) (a0).toNatClampNeg), .int (a1)]) f295_36 (by decide) rfl rfl (Nat.le_of_ble_eq_true rfl) (WF.t w 86 (by decide)) (Nat.le_of_ble_eq_true rfl) (p230_ok (d + 3) F (h) w (hI (h) (150) (a0).toNatClampNeg) (a1) r8 hr9) ?_
      show ex _ 295 (39, [some (.ref (86)), some (.int (a0)), some (.int (a1)), some (.int (hI (h) (150) (a0).toNatClampNeg))], [.int (r8)], h) = _
      refine e_aload_n f295_39 rfl ?_
      refine e_iload_n f295_40 rfl ?_
      refine e_iload_n f295_41 rfl ?_
      obtain ⟨r10, hr11, hp⟩ := bind_some hp
      try dsimp only at hp
      refine e_callV (st := [.int (r8)]) (o := 86) (as := [.int (hI (h) (150) (a0).toNatClampNeg), .int (a1)]) f295_42 (by decide) rfl rfl (Nat.le_of_ble_eq_true rfl) (WF.t w 86 (by decide)) (Nat.le_of_ble_eq_true rfl) (p231_ok (d + 3) F (h) w (hI (h) (150) (a0).toNatClampNeg) (a1) r10 hr11) ?_
      show ex _ 295 (45, [some (.ref (86)), some (.int (a0)), some (.int (a1)), some (.int (hI (h) (150) (a0).toNatClampNeg))], [.int (r10), .int (r8)], h) = _
      refine e_iadd f295_45 ?_
      refine e_aload_n f295_46 rfl ?_
      refine e_iload_n f295_47 rfl ?_
      refine e_iload_n f295_48 rfl ?_
      obtain ⟨r12, hr13, hp⟩ := bind_some hp
      try dsimp only at hp
      refine e_callV (st := [.int ((r8) + (r10))]) (o := 86) (as := [.int (hI (h) (150) (a0).toNatClampNeg), .int (a1)]) f295_49 (by decide) rfl rfl (Nat.le_of_ble_eq_true rfl) (WF.t w 86 (by decide)) (Nat.le_of_ble_eq_true rfl) (p293_ok d F (h) w (hI (h) (150) (a0).toNatClampNeg) (a1) r12 hr13) ?_
      show ex _ 295 (52, [some (.ref (86)), some (.int (a0)), some (.int (a1)), some (.int (hI (h) (150) (a0).toNatClampNeg))], [.int (r12.1), .int ((r8) + (r10))], r12.2) = _
      by_cases hc14 : ((r8) + (r10)) < ((r12.1) : Int32)
      · rw [if_pos hc14] at hp
        refine e_icmp_lt_t f295_52 hc14 ?_
        refine e_iconst (v := 0) f295_59 (by decide) ?_
        have hp := Option.some.inj hp
        subst hp
        exact e_ireturn f295_60 (by decide)
      · rw [if_neg hc14] at hp
        refine e_icmp_lt_f f295_52 hc14 ?_
        refine e_iconst (v := 1) f295_55 (by decide) ?_
        refine e_goto f295_56 ?_
        have hp := Option.some.inj hp
        subst hp
        exact e_ireturn f295_60 (by decide)
    · rw [if_neg hc7] at hp
      refine e_icmp_ne_t f295_30 hc7 ?_
      refine e_iconst (v := 0) f295_59 (by decide) ?_
      have hp := Option.some.inj hp
      subst hp
      exact e_ireturn f295_60 (by decide)
  · rw [if_neg hc3] at hp
    refine e_icmp_le_t f295_14 hc3 ?_
    refine e_iconst (v := 0) f295_59 (by decide) ?_
    have hp := Option.some.inj hp
    subst hp
    exact e_ireturn f295_60 (by decide)
set_option maxRecDepth 100000 in
set_option maxHeartbeats 4000000 in
theorem p295_w (F : Nat) (h : HS) (w : WF h) (a0 : Int32) (a1 : Int32) (r : Int32 × HS) (hp : p295 F h a0 a1 = some r) : WF r.2 := by
  unfold p295 at hp
  by_cases hg1 : (a0) < (0 : Int32) ∨ 60 ≤ (a0).toNatClampNeg
  · rw [if_pos hg1] at hp; cases hp
  rw [if_neg hg1] at hp
  by_cases hg2 : (a0) < (0 : Int32) ∨ 60 ≤ (a0).toNatClampNeg
  · rw [if_pos hg2] at hp; cases hp
  rw [if_neg hg2] at hp
  by_cases hc3 : (a1) < ((hI (h) (152) (a0).toNatClampNeg) : Int32)
  · rw [if_pos hc3] at hp
    by_cases hg4 : (a0) < (0 : Int32) ∨ 60 ≤ (a0).toNatClampNeg
    · rw [if_pos hg4] at hp; cases hp
    rw [if_neg hg4] at hp
    obtain ⟨r5, hr6, hp⟩ := bind_some hp
    try dsimp only at hp
    by_cases hc7 : (r5) = (((-1)) : Int32)
    · rw [if_pos hc7] at hp
      obtain ⟨r8, hr9, hp⟩ := bind_some hp
      try dsimp only at hp
      obtain ⟨r10, hr11, hp⟩ := bind_some hp
      try dsimp only at hp
      obtain ⟨r12, hr13, hp⟩ := bind_some hp
      try dsimp only at hp
      by_cases hc14 : ((r8) + (r10)) < ((r12.1) : Int32)
      · rw [if_pos hc14] at hp
        have hp := Option.some.inj hp
        subst hp
        exact ((p293_w F (h) w (hI (h) (150) (a0).toNatClampNeg) (a1)  r12 hr13))
      · rw [if_neg hc14] at hp
        have hp := Option.some.inj hp
        subst hp
        exact ((p293_w F (h) w (hI (h) (150) (a0).toNatClampNeg) (a1)  r12 hr13))
    · rw [if_neg hc7] at hp
      have hp := Option.some.inj hp
      subst hp
      exact (w)
  · rw [if_neg hc3] at hp
    have hp := Option.some.inj hp
    subst hp
    exact (w)
theorem f296_0 : fetch 296 0 = some (.iload_n 1, 0, 0, 0) := rfl
theorem f296_1 : fetch 296 1 = some (.iconst 0, 0, 0, 0) := rfl
theorem f296_2 : fetch 296 2 = some (.aload_n 0, 0, 0, 0) := rfl
theorem f296_3 : fetch 296 3 = some (.getfield 580, 12, 85, 0) := rfl
theorem f296_6 : fetch 296 6 = some (.iconst 1, 0, 0, 0) := rfl
theorem f296_7 : fetch 296 7 = some (.isub, 0, 0, 0) := rfl
theorem f296_8 : fetch 296 8 = some (.invokestatic 240, 187, 3, 1) := rfl
theorem f296_11 : fetch 296 11 = some (.ifCond .eq 20, 31, 0, 0) := rfl
theorem f296_14 : fetch 296 14 = some (.iload_n 2, 0, 0, 0) := rfl
theorem f296_15 : fetch 296 15 = some (.invokestatic 335, 188, 1, 1) := rfl
theorem f296_18 : fetch 296 18 = some (.ifCond .eq 13, 31, 0, 0) := rfl
theorem f296_21 : fetch 296 21 = some (.iload_n 2, 0, 0, 0) := rfl
theorem f296_22 : fetch 296 22 = some (.aload_n 0, 0, 0, 0) := rfl
theorem f296_23 : fetch 296 23 = some (.getfield 210, 12, 88, 2) := rfl
theorem f296_26 : fetch 296 26 = some (.iload_n 1, 0, 0, 0) := rfl
theorem f296_27 : fetch 296 27 = some (.iaload, 0, 0, 0) := rfl
theorem f296_28 : fetch 296 28 = some (.if_icmp .ge 7, 35, 0, 0) := rfl
theorem f296_31 : fetch 296 31 = some (.iconst (-1), 0, 0, 0) := rfl
theorem f296_32 : fetch 296 32 = some (.goto 17, 49, 0, 0) := rfl
theorem f296_35 : fetch 296 35 = some (.aload_n 0, 0, 0, 0) := rfl
theorem f296_36 : fetch 296 36 = some (.iload_n 1, 0, 0, 0) := rfl
theorem f296_37 : fetch 296 37 = some (.iload_n 2, 0, 0, 0) := rfl
theorem f296_38 : fetch 296 38 = some (.invokevirtual 589, 295, 2, 0) := rfl
theorem f296_41 : fetch 296 41 = some (.ifCond .eq 7, 48, 0, 0) := rfl
theorem f296_44 : fetch 296 44 = some (.iconst 1, 0, 0, 0) := rfl
theorem f296_45 : fetch 296 45 = some (.goto 4, 49, 0, 0) := rfl
theorem f296_48 : fetch 296 48 = some (.iconst 0, 0, 0, 0) := rfl
theorem f296_49 : fetch 296 49 = some (.ireturn, 0, 0, 0) := rfl
set_option maxRecDepth 100000 in
set_option maxHeartbeats 4000000 in
theorem p296_ok (d : Nat) (F : Nat) (h : HS) (w : WF h) (a0 : Int32) (a1 : Int32) (r : Int32 × HS) (hp : p296 F h a0 a1 = some r) : ex (d + 6) 296 (ent 296 [.ref (86), .int (a0), .int (a1)] h) = some (some (.int (r.1)), r.2) := by
  rw [show ent 296 [.ref (86), .int (a0), .int (a1)] h = (0, [some (.ref (86)), some (.int (a0)), some (.int (a1))], [], h) from by  rfl]
  refine ex_weak (ls := [some (.ref (86)), some (.int (a0)), some (.int (a1))]) (le2_ok ⟨Or.inr rfl, Or.inr rfl, Or.inr rfl, trivial⟩) ?_
  unfold p296 at hp
  refine e_iload_n f296_0 rfl ?_
  refine e_iconst (v := 0) f296_1 (by decide) ?_
  refine e_aload_n f296_2 rfl ?_
  refine e_getI f296_3 (WF.t w 86 (by decide)) (by decide) ?_
  refine e_iconst (v := 1) f296_6 (by decide) ?_
  refine e_isub f296_7 ?_
  obtain ⟨r1, hr2, hp⟩ := bind_some hp
  try dsimp only at hp
  refine e_callS (st := []) (as := [.int (a0), .int (0), .int ((hI (h) (86) 85) - (1))]) f296_8 (by decide) rfl rfl (Nat.le_of_ble_eq_true rfl) (Nat.le_of_ble_eq_true rfl) (p187_ok (d + 5) (h) w (a0) (0) ((hI (h) (86) 85) - (1)) r1 hr2) ?_
  show ex _ 296 (11, [some (.ref (86)), some (.int (a0)), some (.int (a1))], [.int (r1)], h) = _
  by_cases hc3 : (r1) = (0 : Int32)
  · rw [if_pos hc3] at hp
    refine e_if_eq_t f296_11 hc3 ?_
    refine e_iconst (v := -1) f296_31 (by decide) ?_
    refine e_goto f296_32 ?_
    have hp := Option.some.inj hp
    subst hp
    exact e_ireturn f296_49 (Or.inl rfl)
  · rw [if_neg hc3] at hp
    refine e_if_eq_f f296_11 hc3 ?_
    refine e_iload_n f296_14 rfl ?_
    obtain ⟨r4, hr5, hp⟩ := bind_some hp
    try dsimp only at hp
    refine e_callS (st := []) (as := [.int (a1)]) f296_15 (by decide) rfl rfl (Nat.le_of_ble_eq_true rfl) (Nat.le_of_ble_eq_true rfl) (p188_ok (d + 4) (h) w (a1) r4 hr5) ?_
    show ex _ 296 (18, [some (.ref (86)), some (.int (a0)), some (.int (a1))], [.int (r4)], h) = _
    by_cases hc6 : (r4) = (0 : Int32)
    · rw [if_pos hc6] at hp
      refine e_if_eq_t f296_18 hc6 ?_
      refine e_iconst (v := -1) f296_31 (by decide) ?_
      refine e_goto f296_32 ?_
      have hp := Option.some.inj hp
      subst hp
      exact e_ireturn f296_49 (Or.inl rfl)
    · rw [if_neg hc6] at hp
      refine e_if_eq_f f296_18 hc6 ?_
      refine e_iload_n f296_21 rfl ?_
      refine e_aload_n f296_22 rfl ?_
      refine e_getR f296_23 (WF.t w 86 (by decide)) rfl (WF.r (q := 151) w 86 88 (by decide)) ?_
      refine e_iload_n f296_26 rfl ?_
      by_cases hg7 : (a0) < (0 : Int32) ∨ 60 ≤ (a0).toNatClampNeg
      · rw [if_pos hg7] at hp; cases hp
      rw [if_neg hg7] at hp
      refine e_iaload f296_27 (Or.inl (WF.t w 151 (by decide))) (WF.n w 151 (by decide)) hg7 ?_
      by_cases hc8 : (a1) < ((hI (h) (151) (a0).toNatClampNeg) : Int32)
      · rw [if_pos hc8] at hp
        refine e_icmp_ge_f f296_28 hc8 ?_
        refine e_iconst (v := -1) f296_31 (by decide) ?_
        refine e_goto f296_32 ?_
        have hp := Option.some.inj hp
        subst hp
        exact e_ireturn f296_49 (Or.inl rfl)
      · rw [if_neg hc8] at hp
        refine e_icmp_ge_t f296_28 hc8 ?_
        refine e_aload_n f296_35 rfl ?_
        refine e_iload_n f296_36 rfl ?_
        refine e_iload_n f296_37 rfl ?_
        obtain ⟨r9, hr10, hp⟩ := bind_some hp
        try dsimp only at hp
        refine e_callV (st := []) (o := 86) (as := [.int (a0), .int (a1)]) f296_38 (by decide) rfl rfl (Nat.le_of_ble_eq_true rfl) (WF.t w 86 (by decide)) (Nat.le_of_ble_eq_true rfl) (p295_ok d F (h) w (a0) (a1) r9 hr10) ?_
        show ex _ 296 (41, [some (.ref (86)), some (.int (a0)), some (.int (a1))], [.int (r9.1)], r9.2) = _
        by_cases hc11 : (r9.1) = (0 : Int32)
        · rw [if_pos hc11] at hp
          refine e_if_eq_t f296_41 hc11 ?_
          refine e_iconst (v := 0) f296_48 (by decide) ?_
          have hp := Option.some.inj hp
          subst hp
          exact e_ireturn f296_49 (Or.inl rfl)
        · rw [if_neg hc11] at hp
          refine e_if_eq_f f296_41 hc11 ?_
          refine e_iconst (v := 1) f296_44 (by decide) ?_
          refine e_goto f296_45 ?_
          have hp := Option.some.inj hp
          subst hp
          exact e_ireturn f296_49 (Or.inl rfl)
set_option maxRecDepth 100000 in
set_option maxHeartbeats 4000000 in
theorem p296_w (F : Nat) (h : HS) (w : WF h) (a0 : Int32) (a1 : Int32) (r : Int32 × HS) (hp : p296 F h a0 a1 = some r) : WF r.2 := by
  unfold p296 at hp
  obtain ⟨r1, hr2, hp⟩ := bind_some hp
  try dsimp only at hp
  by_cases hc3 : (r1) = (0 : Int32)
  · rw [if_pos hc3] at hp
    have hp := Option.some.inj hp
    subst hp
    exact (w)
  · rw [if_neg hc3] at hp
    obtain ⟨r4, hr5, hp⟩ := bind_some hp
    try dsimp only at hp
    by_cases hc6 : (r4) = (0 : Int32)
    · rw [if_pos hc6] at hp
      have hp := Option.some.inj hp
      subst hp
      exact (w)
    · rw [if_neg hc6] at hp
      by_cases hg7 : (a0) < (0 : Int32) ∨ 60 ≤ (a0).toNatClampNeg
      · rw [if_pos hg7] at hp; cases hp
      rw [if_neg hg7] at hp
      by_cases hc8 : (a1) < ((hI (h) (151) (a0).toNatClampNeg) : Int32)
      · rw [if_pos hc8] at hp
        have hp := Option.some.inj hp
        subst hp
        exact (w)
      · rw [if_neg hc8] at hp
        obtain ⟨r9, hr10, hp⟩ := bind_some hp
        try dsimp only at hp
        by_cases hc11 : (r9.1) = (0 : Int32)
        · rw [if_pos hc11] at hp
          have hp := Option.some.inj hp
          subst hp
          exact ((p295_w F (h) w (a0) (a1)  r9 hr10))
        · rw [if_neg hc11] at hp
          have hp := Option.some.inj hp
          subst hp
          exact ((p295_w F (h) w (a0) (a1)  r9 hr10))
theorem f297_0 : fetch 297 0 = some (.iload_n 1, 0, 0, 0) := rfl
theorem f297_1 : fetch 297 1 = some (.iconst 0, 0, 0, 0) := rfl
theorem f297_2 : fetch 297 2 = some (.aload_n 0, 0, 0, 0) := rfl
theorem f297_3 : fetch 297 3 = some (.getfield 580, 12, 85, 0) := rfl
theorem f297_6 : fetch 297 6 = some (.iconst 1, 0, 0, 0) := rfl
theorem f297_7 : fetch 297 7 = some (.isub, 0, 0, 0) := rfl
theorem f297_8 : fetch 297 8 = some (.invokestatic 240, 187, 3, 1) := rfl
theorem f297_11 : fetch 297 11 = some (.ifCond .eq 12, 23, 0, 0) := rfl
theorem f297_14 : fetch 297 14 = some (.aload_n 0, 0, 0, 0) := rfl
theorem f297_15 : fetch 297 15 = some (.getfield 216, 12, 90, 2) := rfl
theorem f297_18 : fetch 297 18 = some (.iload_n 1, 0, 0, 0) := rfl
theorem f297_19 : fetch 297 19 = some (.baload, 0, 0, 0) := rfl
theorem f297_20 : fetch 297 20 = some (.ifCond .eq 5, 25, 0, 0) := rfl
theorem f297_23 : fetch 297 23 = some (.iconst 0, 0, 0, 0) := rfl
theorem f297_24 : fetch 297 24 = some (.ireturn, 0, 0, 1) := rfl
theorem f297_25 : fetch 297 25 = some (.aload_n 0, 0, 0, 0) := rfl
theorem f297_26 : fetch 297 26 = some (.getfield 216, 12, 90, 2) := rfl
theorem f297_29 : fetch 297 29 = some (.iload_n 1, 0, 0, 0) := rfl
theorem f297_30 : fetch 297 30 = some (.iconst 1, 0, 0, 0) := rfl
theorem f297_31 : fetch 297 31 = some (.bastore, 0, 0, 0) := rfl
theorem f297_32 : fetch 297 32 = some (.aload_n 0, 0, 0, 0) := rfl
theorem f297_33 : fetch 297 33 = some (.getfield 213, 12, 89, 2) := rfl
theorem f297_36 : fetch 297 36 = some (.iload_n 1, 0, 0, 0) := rfl
theorem f297_37 : fetch 297 37 = some (.iload_n 2, 0, 0, 0) := rfl
theorem f297_38 : fetch 297 38 = some (.ifCond .eq 10, 48, 0, 0) := rfl
theorem f297_41 : fetch 297 41 = some (.aload_n 0, 0, 0, 0) := rfl
theorem f297_42 : fetch 297 42 = some (.getfield 244, 12, 1, 0) := rfl
theorem f297_45 : fetch 297 45 = some (.goto 6, 51, 0, 0) := rfl
theorem f297_48 : fetch 297 48 = some (.ldc_w 290, 0, 0, 100000) := rfl
theorem f297_51 : fetch 297 51 = some (.iastore, 0, 0, 0) := rfl
theorem f297_52 : fetch 297 52 = some (.iconst 1, 0, 0, 0) := rfl
theorem f297_53 : fetch 297 53 = some (.ireturn, 0, 0, 1) := rfl
set_option maxRecDepth 100000 in
set_option maxHeartbeats 4000000 in
theorem p297_j51_ok (d : Nat) (a0 : Int32) (a1 : Int32) (h : HS) (w : WF h) (s0 : Int32) (s1 : Int32) (r : Int32 × HS) (hp : p297_j51 a0 a1 h s0 s1 = some r) : ex (d + 1) 297 (51, [none, none, none], [.int (s0), .int (s1), .ref (152)], h) = some (some (.int (r.1)), r.2) := by
  unfold p297_j51 at hp
  by_cases hg8 : (s1) < (0 : Int32) ∨ 60 ≤ (s1).toNatClampNeg
  · rw [if_pos hg8] at hp; cases hp
  rw [if_neg hg8] at hp
  refine e_iastore f297_51 (WF.t w 152 (by decide)) (WF.n w 152 (by decide)) hg8 ?_
  refine e_iconst (v := 1) f297_52 (by decide) ?_
  have hp := Option.some.inj hp
  subst hp
  exact e_ireturn f297_53 (by decide)
set_option maxRecDepth 100000 in
set_option maxHeartbeats 4000000 in
theorem p297_j51_w (a0 : Int32) (a1 : Int32) (h : HS) (w : WF h) (s0 : Int32) (s1 : Int32) (r : Int32 × HS) (hp : p297_j51 a0 a1 h s0 s1 = some r) : WF r.2 := by
  unfold p297_j51 at hp
  by_cases hg8 : (s1) < (0 : Int32) ∨ 60 ≤ (s1).toNatClampNeg
  · rw [if_pos hg8] at hp; cases hp
  rw [if_neg hg8] at hp
  have hp := Option.some.inj hp
  subst hp
  exact (w)
set_option maxRecDepth 100000 in
set_option maxHeartbeats 4000000 in
theorem p297_ok (d : Nat) (h : HS) (w : WF h) (a0 : Int32) (a1 : Int32) (r : Int32 × HS) (hp : p297 h a0 a1 = some r) : ex (d + 1) 297 (ent 297 [.ref (86), .int (a0), .int (a1)] h) = some (some (.int (r.1)), r.2) := by
  rw [show ent 297 [.ref (86), .int (a0), .int (a1)] h = (0, [some (.ref (86)), some (.int (a0)), some (.int (a1))], [], h) from by  rfl]
  refine ex_weak (ls := [some (.ref (86)), some (.int (a0)), some (.int (a1))]) (le2_ok ⟨Or.inr rfl, Or.inr rfl, Or.inr rfl, trivial⟩) ?_
  unfold p297 at hp
  refine e_iload_n f297_0 rfl ?_
  refine e_iconst (v := 0) f297_1 (by decide) ?_
  refine e_aload_n f297_2 rfl ?_
  refine e_getI f297_3 (WF.t w 86 (by decide)) (by decide) ?_
  refine e_iconst (v := 1) f297_6 (by decide) ?_
  refine e_isub f297_7 ?_
  obtain ⟨r1, hr2, hp⟩ := bind_some hp
  try dsimp only at hp
  refine e_callS (st := []) (as := [.int (a0), .int (0), .int ((hI (h) (86) 85) - (1))]) f297_8 (by decide) rfl rfl (Nat.le_of_ble_eq_true rfl) (Nat.le_of_ble_eq_true rfl) (p187_ok d (h) w (a0) (0) ((hI (h) (86) 85) - (1)) r1 hr2) ?_
  show ex _ 297 (11, [some (.ref (86)), some (.int (a0)), some (.int (a1))], [.int (r1)], h) = _
  by_cases hc3 : (r1) = (0 : Int32)
  · rw [if_pos hc3] at hp
    refine e_if_eq_t f297_11 hc3 ?_
    refine e_iconst (v := 0) f297_23 (by decide) ?_
    have hp := Option.some.inj hp
    subst hp
    exact e_ireturn f297_24 (by decide)
  · rw [if_neg hc3] at hp
    refine e_if_eq_f f297_11 hc3 ?_
    refine e_aload_n f297_14 rfl ?_
    refine e_getR f297_15 (WF.t w 86 (by decide)) rfl (WF.r (q := 153) w 86 90 (by decide)) ?_
    refine e_iload_n f297_18 rfl ?_
    by_cases hg4 : (a0) < (0 : Int32) ∨ 60 ≤ (a0).toNatClampNeg
    · rw [if_pos hg4] at hp; cases hp
    rw [if_neg hg4] at hp
    refine e_baload f297_19 (Or.inr (WF.t w 153 (by decide))) (WF.n w 153 (by decide)) hg4 ?_
    by_cases hc5 : (hI (h) (153) (a0).toNatClampNeg) = (0 : Int32)
    · rw [if_pos hc5] at hp
      refine e_if_eq_t f297_20 hc5 ?_
      refine e_aload_n f297_25 rfl ?_
      refine e_getR f297_26 (WF.t w 86 (by decide)) rfl (WF.r (q := 153) w 86 90 (by decide)) ?_
      refine e_iload_n f297_29 rfl ?_
      refine e_iconst (v := 1) f297_30 (by decide) ?_
      by_cases hg6 : (a0) < (0 : Int32) ∨ 60 ≤ (a0).toNatClampNeg
      · rw [if_pos hg6] at hp; cases hp
      rw [if_neg hg6] at hp
      refine e_zastore f297_31 (WF.t w 153 (by decide)) (WF.n w 153 (by decide)) hg6 ?_
      refine e_aload_n f297_32 rfl ?_
      refine e_getR f297_33 (WF.t w 86 (by decide)) rfl (WF.r (q := 152) w 86 89 (by decide)) ?_
      refine e_iload_n f297_36 rfl ?_
      refine e_iload_n f297_37 rfl ?_
      by_cases hc7 : (a1) = (0 : Int32)
      · rw [if_pos hc7] at hp
        refine e_if_eq_t f297_38 hc7 ?_
        refine e_ldcw (v := 100000) f297_48 (by decide) (by decide) ?_
        refine ex_weak (ls := [none, none, none]) (le2_ok ⟨Or.inl rfl, Or.inl rfl, Or.inl rfl, trivial⟩) ?_
        exact p297_j51_ok d a0 a1 (hsI (h) (153) (a0).toNatClampNeg (vp_nar .boolean (1))) (w) (100000) (a0) _ hp
      · rw [if_neg hc7] at hp
        refine e_if_eq_f f297_38 hc7 ?_
        refine e_aload_n f297_41 rfl ?_
        refine e_getI f297_42 (WF.t w 86 (by decide)) (by decide) ?_
        refine e_goto f297_45 ?_
        refine ex_weak (ls := [none, none, none]) (le2_ok ⟨Or.inl rfl, Or.inl rfl, Or.inl rfl, trivial⟩) ?_
        exact p297_j51_ok d a0 a1 (hsI (h) (153) (a0).toNatClampNeg (vp_nar .boolean (1))) (w) (hI (hsI (h) (153) (a0).toNatClampNeg (vp_nar .boolean (1))) (86) 1) (a0) _ hp
    · rw [if_neg hc5] at hp
      refine e_if_eq_f f297_20 hc5 ?_
      refine e_iconst (v := 0) f297_23 (by decide) ?_
      have hp := Option.some.inj hp
      subst hp
      exact e_ireturn f297_24 (by decide)
set_option maxRecDepth 100000 in
set_option maxHeartbeats 4000000 in
theorem p297_w (h : HS) (w : WF h) (a0 : Int32) (a1 : Int32) (r : Int32 × HS) (hp : p297 h a0 a1 = some r) : WF r.2 := by
  unfold p297 at hp
  obtain ⟨r1, hr2, hp⟩ := bind_some hp
  try dsimp only at hp
  by_cases hc3 : (r1) = (0 : Int32)
  · rw [if_pos hc3] at hp
    have hp := Option.some.inj hp
    subst hp
    exact (w)
  · rw [if_neg hc3] at hp
    by_cases hg4 : (a0) < (0 : Int32) ∨ 60 ≤ (a0).toNatClampNeg
    · rw [if_pos hg4] at hp; cases hp
    rw [if_neg hg4] at hp
    by_cases hc5 : (hI (h) (153) (a0).toNatClampNeg) = (0 : Int32)
    · rw [if_pos hc5] at hp
      by_cases hg6 : (a0) < (0 : Int32) ∨ 60 ≤ (a0).toNatClampNeg
      · rw [if_pos hg6] at hp; cases hp
      rw [if_neg hg6] at hp
      by_cases hc7 : (a1) = (0 : Int32)
      · rw [if_pos hc7] at hp
        exact p297_j51_w a0 a1 (hsI (h) (153) (a0).toNatClampNeg (vp_nar .boolean (1))) (w) (100000) (a0) _ hp
      · rw [if_neg hc7] at hp
        exact p297_j51_w a0 a1 (hsI (h) (153) (a0).toNatClampNeg (vp_nar .boolean (1))) (w) (hI (hsI (h) (153) (a0).toNatClampNeg (vp_nar .boolean (1))) (86) 1) (a0) _ hp
    · rw [if_neg hc5] at hp
      have hp := Option.some.inj hp
      subst hp
      exact (w)
theorem f298_0 : fetch 298 0 = some (.iload_n 1, 0, 0, 0) := rfl
theorem f298_1 : fetch 298 1 = some (.iconst 0, 0, 0, 0) := rfl
theorem f298_2 : fetch 298 2 = some (.aload_n 0, 0, 0, 0) := rfl
theorem f298_3 : fetch 298 3 = some (.getfield 580, 12, 85, 0) := rfl
theorem f298_6 : fetch 298 6 = some (.iconst 1, 0, 0, 0) := rfl
theorem f298_7 : fetch 298 7 = some (.isub, 0, 0, 0) := rfl
theorem f298_8 : fetch 298 8 = some (.invokestatic 240, 187, 3, 1) := rfl
theorem f298_11 : fetch 298 11 = some (.ifCond .eq 15, 26, 0, 0) := rfl
theorem f298_14 : fetch 298 14 = some (.aload_n 0, 0, 0, 0) := rfl
theorem f298_15 : fetch 298 15 = some (.iload_n 1, 0, 0, 0) := rfl
theorem f298_16 : fetch 298 16 = some (.aload_n 0, 0, 0, 0) := rfl
theorem f298_17 : fetch 298 17 = some (.getfield 244, 12, 1, 0) := rfl
theorem f298_20 : fetch 298 20 = some (.invokevirtual 589, 295, 2, 0) := rfl
theorem f298_23 : fetch 298 23 = some (.ifCond .ne 5, 28, 0, 0) := rfl
theorem f298_26 : fetch 298 26 = some (.iconst 0, 0, 0, 0) := rfl
theorem f298_27 : fetch 298 27 = some (.ireturn, 0, 0, 1) := rfl
theorem f298_28 : fetch 298 28 = some (.aload_n 0, 0, 0, 0) := rfl
theorem f298_29 : fetch 298 29 = some (.getfield 204, 12, 86, 2) := rfl
theorem f298_32 : fetch 298 32 = some (.iload_n 1, 0, 0, 0) := rfl
theorem f298_33 : fetch 298 33 = some (.iaload, 0, 0, 0) := rfl
theorem f298_34 : fetch 298 34 = some (.istore_n 2, 0, 0, 0) := rfl
theorem f298_35 : fetch 298 35 = some (.aload_n 0, 0, 0, 0) := rfl
theorem f298_36 : fetch 298 36 = some (.getfield 49, 12, 22, 2) := rfl
theorem f298_39 : fetch 298 39 = some (.iload_n 2, 0, 0, 0) := rfl
theorem f298_40 : fetch 298 40 = some (.iaload, 0, 0, 0) := rfl
theorem f298_41 : fetch 298 41 = some (.iconst (-1), 0, 0, 0) := rfl
theorem f298_42 : fetch 298 42 = some (.if_icmp .eq 13, 55, 0, 0) := rfl
theorem f298_45 : fetch 298 45 = some (.aload_n 0, 0, 0, 0) := rfl
theorem f298_46 : fetch 298 46 = some (.getfield 52, 12, 23, 2) := rfl
theorem f298_49 : fetch 298 49 = some (.iload_n 2, 0, 0, 0) := rfl
theorem f298_50 : fetch 298 50 = some (.iaload, 0, 0, 0) := rfl
theorem f298_51 : fetch 298 51 = some (.iconst (-1), 0, 0, 0) := rfl
theorem f298_52 : fetch 298 52 = some (.if_icmp .eq 5, 57, 0, 0) := rfl
theorem f298_55 : fetch 298 55 = some (.iconst 0, 0, 0, 0) := rfl
theorem f298_56 : fetch 298 56 = some (.ireturn, 0, 0, 1) := rfl
theorem f298_57 : fetch 298 57 = some (.aload_n 0, 0, 0, 0) := rfl
theorem f298_58 : fetch 298 58 = some (.getfield 52, 12, 23, 2) := rfl
theorem f298_61 : fetch 298 61 = some (.iload_n 2, 0, 0, 0) := rfl
theorem f298_62 : fetch 298 62 = some (.iload_n 1, 0, 0, 0) := rfl
theorem f298_63 : fetch 298 63 = some (.iastore, 0, 0, 0) := rfl
theorem f298_64 : fetch 298 64 = some (.iconst 1, 0, 0, 0) := rfl
theorem f298_65 : fetch 298 65 = some (.ireturn, 0, 0, 1) := rfl
set_option maxRecDepth 100000 in
set_option maxHeartbeats 4000000 in
theorem p298_ok (d : Nat) (F : Nat) (h : HS) (w : WF h) (a0 : Int32) (r : Int32 × HS) (hp : p298 F h a0 = some r) : ex (d + 6) 298 (ent 298 [.ref (86), .int (a0)] h) = some (some (.int (r.1)), r.2) := by
  rw [show ent 298 [.ref (86), .int (a0)] h = (0, [some (.ref (86)), some (.int (a0)), none], [], h) from by  rfl]
  refine ex_weak (ls := [some (.ref (86)), some (.int (a0)), none]) (le2_ok ⟨Or.inr rfl, Or.inr rfl, Or.inr rfl, trivial⟩) ?_
  unfold p298 at hp
  refine e_iload_n f298_0 rfl ?_
  refine e_iconst (v := 0) f298_1 (by decide) ?_
  refine e_aload_n f298_2 rfl ?_
  refine e_getI f298_3 (WF.t w 86 (by decide)) (by decide) ?_
  refine e_iconst (v := 1) f298_6 (by decide) ?_
  refine e_isub f298_7 ?_
  obtain ⟨r1, hr2, hp⟩ := bind_some hp
  try dsimp only at hp
  refine e_callS (st := []) (as := [.int (a0), .int (0), .int ((hI (h) (86) 85) - (1))]) f298_8 (by decide) rfl rfl (Nat.le_of_ble_eq_true rfl) (Nat.le_of_ble_eq_true rfl) (p187_ok (d + 5) (h) w (a0) (0) ((hI (h) (86) 85) - (1)) r1 hr2) ?_
  show ex _ 298 (11, [some (.ref (86)), some (.int (a0)), none], [.int (r1)], h) = _
  by_cases hc3 : (r1) = (0 : Int32)
  · rw [if_pos hc3] at hp
    refine e_if_eq_t f298_11 hc3 ?_
    refine e_iconst (v := 0) f298_26 (by decide) ?_
    have hp := Option.some.inj hp
    subst hp
    exact e_ireturn f298_27 (by decide)
  · rw [if_neg hc3] at hp
    refine e_if_eq_f f298_11 hc3 ?_
    refine e_aload_n f298_14 rfl ?_
    refine e_iload_n f298_15 rfl ?_
    refine e_aload_n f298_16 rfl ?_
    refine e_getI f298_17 (WF.t w 86 (by decide)) (by decide) ?_
    obtain ⟨r4, hr5, hp⟩ := bind_some hp
    try dsimp only at hp
    refine e_callV (st := []) (o := 86) (as := [.int (a0), .int (hI (h) (86) 1)]) f298_20 (by decide) rfl rfl (Nat.le_of_ble_eq_true rfl) (WF.t w 86 (by decide)) (Nat.le_of_ble_eq_true rfl) (p295_ok d F (h) w (a0) (hI (h) (86) 1) r4 hr5) ?_
    show ex _ 298 (23, [some (.ref (86)), some (.int (a0)), none], [.int (r4.1)], r4.2) = _
    by_cases hc6 : (r4.1) = (0 : Int32)
    · rw [if_pos hc6] at hp
      refine e_if_ne_f f298_23 hc6 ?_
      refine e_iconst (v := 0) f298_26 (by decide) ?_
      have hp := Option.some.inj hp
      subst hp
      exact e_ireturn f298_27 (by decide)
    · rw [if_neg hc6] at hp
      refine e_if_ne_t f298_23 hc6 ?_
      refine e_aload_n f298_28 rfl ?_
      refine e_getR f298_29 (WF.t (p295_w F (h) w (a0) (hI (h) (86) 1)  r4 hr5) 86 (by decide)) rfl (WF.r (q := 149) (p295_w F (h) w (a0) (hI (h) (86) 1)  r4 hr5) 86 86 (by decide)) ?_
      refine e_iload_n f298_32 rfl ?_
      by_cases hg7 : (a0) < (0 : Int32) ∨ 60 ≤ (a0).toNatClampNeg
      · rw [if_pos hg7] at hp; cases hp
      rw [if_neg hg7] at hp
      refine e_iaload f298_33 (Or.inl (WF.t (p295_w F (h) w (a0) (hI (h) (86) 1)  r4 hr5) 149 (by decide))) (WF.n (p295_w F (h) w (a0) (hI (h) (86) 1)  r4 hr5) 149 (by decide)) hg7 ?_
      refine e_istore_n (ls2 := [some (.ref (86)), some (.int (a0)), some (.int (hI (r4.2) (149) (a0).toNatClampNeg))]) f298_34 (Nat.le_of_ble_eq_true rfl) rfl ?_
      refine e_aload_n f298_35 rfl ?_
      refine e_getR f298_36 (WF.t (p295_w F (h) w (a0) (hI (h) (86) 1)  r4 hr5) 86 (by decide)) rfl (WF.r (q := 100) (p295_w F (h) w (a0) (hI (h) (86) 1)  r4 hr5) 86 22 (by decide)) ?_
      refine e_iload_n f298_39 rfl ?_
      by_cases hg8 : (hI (r4.2) (149) (a0).toNatClampNeg) < (0 : Int32) ∨ 60 ≤ (hI (r4.2) (149) (a0).toNatClampNeg).toNatClampNeg
      · rw [if_pos hg8] at hp; cases hp
      rw [if_neg hg8] at hp
      refine e_iaload f298_40 (Or.inl (WF.t (p295_w F (h) w (a0) (hI (h) (86) 1)  r4 hr5) 100 (by decide))) (WF.n (p295_w F (h) w (a0) (hI (h) (86) 1)  r4 hr5) 100 (by decide)) hg8 ?_
      refine e_iconst (v := -1) f298_41 (by decide) ?_
      by_cases hc9 : (hI (r4.2) (100) (hI (r4.2) (149) (a0).toNatClampNeg).toNatClampNeg) = (((-1)) : Int32)
      · rw [if_pos hc9] at hp
        refine e_icmp_eq_t f298_42 hc9 ?_
        refine e_iconst (v := 0) f298_55 (by decide) ?_
        have hp := Option.some.inj hp
        subst hp
        exact e_ireturn f298_56 (by decide)
      · rw [if_neg hc9] at hp
        refine e_icmp_eq_f f298_42 hc9 ?_
        refine e_aload_n f298_45 rfl ?_
        refine e_getR f298_46 (WF.t (p295_w F (h) w (a0) (hI (h) (86) 1)  r4 hr5) 86 (by decide)) rfl (WF.r (q := 101) (p295_w F (h) w (a0) (hI (h) (86) 1)  r4 hr5) 86 23 (by decide)) ?_
        refine e_iload_n f298_49 rfl ?_
        by_cases hg10 : (hI (r4.2) (149) (a0).toNatClampNeg) < (0 : Int32) ∨ 60 ≤ (hI (r4.2) (149) (a0).toNatClampNeg).toNatClampNeg
        · rw [if_pos hg10] at hp; cases hp
        rw [if_neg hg10] at hp
        refine e_iaload f298_50 (Or.inl (WF.t (p295_w F (h) w (a0) (hI (h) (86) 1)  r4 hr5) 101 (by decide))) (WF.n (p295_w F (h) w (a0) (hI (h) (86) 1)  r4 hr5) 101 (by decide)) hg10 ?_
        refine e_iconst (v := -1) f298_51 (by decide) ?_
        by_cases hc11 : (hI (r4.2) (101) (hI (r4.2) (149) (a0).toNatClampNeg).toNatClampNeg) = (((-1)) : Int32)
        · rw [if_pos hc11] at hp
          refine e_icmp_eq_t f298_52 hc11 ?_
          refine e_aload_n f298_57 rfl ?_
          refine e_getR f298_58 (WF.t (p295_w F (h) w (a0) (hI (h) (86) 1)  r4 hr5) 86 (by decide)) rfl (WF.r (q := 101) (p295_w F (h) w (a0) (hI (h) (86) 1)  r4 hr5) 86 23 (by decide)) ?_
          refine e_iload_n f298_61 rfl ?_
          refine e_iload_n f298_62 rfl ?_
          by_cases hg12 : (hI (r4.2) (149) (a0).toNatClampNeg) < (0 : Int32) ∨ 60 ≤ (hI (r4.2) (149) (a0).toNatClampNeg).toNatClampNeg
          · rw [if_pos hg12] at hp; cases hp
          rw [if_neg hg12] at hp
          refine e_iastore f298_63 (WF.t (p295_w F (h) w (a0) (hI (h) (86) 1)  r4 hr5) 101 (by decide)) (WF.n (p295_w F (h) w (a0) (hI (h) (86) 1)  r4 hr5) 101 (by decide)) hg12 ?_
          refine e_iconst (v := 1) f298_64 (by decide) ?_
          have hp := Option.some.inj hp
          subst hp
          exact e_ireturn f298_65 (by decide)
        · rw [if_neg hc11] at hp
          refine e_icmp_eq_f f298_52 hc11 ?_
          refine e_iconst (v := 0) f298_55 (by decide) ?_
          have hp := Option.some.inj hp
          subst hp
          exact e_ireturn f298_56 (by decide)
set_option maxRecDepth 100000 in
set_option maxHeartbeats 4000000 in
theorem p298_w (F : Nat) (h : HS) (w : WF h) (a0 : Int32) (r : Int32 × HS) (hp : p298 F h a0 = some r) : WF r.2 := by
  unfold p298 at hp
  obtain ⟨r1, hr2, hp⟩ := bind_some hp
  try dsimp only at hp
  by_cases hc3 : (r1) = (0 : Int32)
  · rw [if_pos hc3] at hp
    have hp := Option.some.inj hp
    subst hp
    exact (w)
  · rw [if_neg hc3] at hp
    obtain ⟨r4, hr5, hp⟩ := bind_some hp
    try dsimp only at hp
    by_cases hc6 : (r4.1) = (0 : Int32)
    · rw [if_pos hc6] at hp
      have hp := Option.some.inj hp
      subst hp
      exact ((p295_w F (h) w (a0) (hI (h) (86) 1)  r4 hr5))
    · rw [if_neg hc6] at hp
      by_cases hg7 : (a0) < (0 : Int32) ∨ 60 ≤ (a0).toNatClampNeg
      · rw [if_pos hg7] at hp; cases hp
      rw [if_neg hg7] at hp
      by_cases hg8 : (hI (r4.2) (149) (a0).toNatClampNeg) < (0 : Int32) ∨ 60 ≤ (hI (r4.2) (149) (a0).toNatClampNeg).toNatClampNeg
      · rw [if_pos hg8] at hp; cases hp
      rw [if_neg hg8] at hp
      by_cases hc9 : (hI (r4.2) (100) (hI (r4.2) (149) (a0).toNatClampNeg).toNatClampNeg) = (((-1)) : Int32)
      · rw [if_pos hc9] at hp
        have hp := Option.some.inj hp
        subst hp
        exact ((p295_w F (h) w (a0) (hI (h) (86) 1)  r4 hr5))
      · rw [if_neg hc9] at hp
        by_cases hg10 : (hI (r4.2) (149) (a0).toNatClampNeg) < (0 : Int32) ∨ 60 ≤ (hI (r4.2) (149) (a0).toNatClampNeg).toNatClampNeg
        · rw [if_pos hg10] at hp; cases hp
        rw [if_neg hg10] at hp
        by_cases hc11 : (hI (r4.2) (101) (hI (r4.2) (149) (a0).toNatClampNeg).toNatClampNeg) = (((-1)) : Int32)
        · rw [if_pos hc11] at hp
          by_cases hg12 : (hI (r4.2) (149) (a0).toNatClampNeg) < (0 : Int32) ∨ 60 ≤ (hI (r4.2) (149) (a0).toNatClampNeg).toNatClampNeg
          · rw [if_pos hg12] at hp; cases hp
          rw [if_neg hg12] at hp
          have hp := Option.some.inj hp
          subst hp
          exact ((p295_w F (h) w (a0) (hI (h) (86) 1)  r4 hr5))
        · rw [if_neg hc11] at hp
          have hp := Option.some.inj hp
          subst hp
          exact ((p295_w F (h) w (a0) (hI (h) (86) 1)  r4 hr5))
theorem f299_0 : fetch 299 0 = some (.iconst 0, 0, 0, 0) := rfl
theorem f299_1 : fetch 299 1 = some (.istore_n 1, 0, 0, 0) := rfl
theorem f299_2 : fetch 299 2 = some (.iconst 0, 0, 0, 0) := rfl
theorem f299_3 : fetch 299 3 = some (.istore_n 2, 0, 0, 0) := rfl
theorem f299_4 : fetch 299 4 = some (.iload_n 2, 0, 0, 0) := rfl
theorem f299_5 : fetch 299 5 = some (.aload_n 0, 0, 0, 0) := rfl
theorem f299_6 : fetch 299 6 = some (.getfield 314, 12, 20, 0) := rfl
theorem f299_9 : fetch 299 9 = some (.if_icmp .ge 56, 65, 0, 0) := rfl
theorem f299_12 : fetch 299 12 = some (.aload_n 0, 0, 0, 0) := rfl
theorem f299_13 : fetch 299 13 = some (.getfield 52, 12, 23, 2) := rfl
theorem f299_16 : fetch 299 16 = some (.iload_n 2, 0, 0, 0) := rfl
theorem f299_17 : fetch 299 17 = some (.iaload, 0, 0, 0) := rfl
theorem f299_18 : fetch 299 18 = some (.iconst (-1), 0, 0, 0) := rfl
theorem f299_19 : fetch 299 19 = some (.if_icmp .eq 40, 59, 0, 0) := rfl
theorem f299_22 : fetch 299 22 = some (.aload_n 0, 0, 0, 0) := rfl
theorem f299_23 : fetch 299 23 = some (.aload_n 0, 0, 0, 0) := rfl
theorem f299_24 : fetch 299 24 = some (.getfield 52, 12, 23, 2) := rfl
theorem f299_27 : fetch 299 27 = some (.iload_n 2, 0, 0, 0) := rfl
theorem f299_28 : fetch 299 28 = some (.iaload, 0, 0, 0) := rfl
theorem f299_29 : fetch 299 29 = some (.aload_n 0, 0, 0, 0) := rfl
theorem f299_30 : fetch 299 30 = some (.getfield 244, 12, 1, 0) := rfl
theorem f299_33 : fetch 299 33 = some (.invokevirtual 589, 295, 2, 0) := rfl
theorem f299_36 : fetch 299 36 = some (.ifCond .ne 23, 59, 0, 0) := rfl
theorem f299_39 : fetch 299 39 = some (.aload_n 0, 0, 0, 0) := rfl
theorem f299_40 : fetch 299 40 = some (.getfield 52, 12, 23, 2) := rfl
theorem f299_43 : fetch 299 43 = some (.iload_n 2, 0, 0, 0) := rfl
theorem f299_44 : fetch 299 44 = some (.iconst (-1), 0, 0, 0) := rfl
theorem f299_45 : fetch 299 45 = some (.iastore, 0, 0, 0) := rfl
theorem f299_46 : fetch 299 46 = some (.aload_n 0, 0, 0, 0) := rfl
theorem f299_47 : fetch 299 47 = some (.getfield 55, 12, 24, 2) := rfl
theorem f299_50 : fetch 299 50 = some (.iload_n 2, 0, 0, 0) := rfl
theorem f299_51 : fetch 299 51 = some (.dup2, 0, 0, 0) := rfl
theorem f299_52 : fetch 299 52 = some (.iaload, 0, 0, 0) := rfl
theorem f299_53 : fetch 299 53 = some (.iconst 1, 0, 0, 0) := rfl
theorem f299_54 : fetch 299 54 = some (.iadd, 0, 0, 0) := rfl
theorem f299_55 : fetch 299 55 = some (.iastore, 0, 0, 0) := rfl
theorem f299_56 : fetch 299 56 = some (.iinc 1 1, 0, 0, 0) := rfl
theorem f299_59 : fetch 299 59 = some (.iinc 2 1, 0, 0, 0) := rfl
theorem f299_62 : fetch 299 62 = some (.goto (-58), 4, 0, 0) := rfl
theorem f299_65 : fetch 299 65 = some (.iload_n 1, 0, 0, 0) := rfl
theorem f299_66 : fetch 299 66 = some (.ireturn, 0, 0, 0) := rfl
set_option maxRecDepth 100000 in
set_option maxHeartbeats 4000000 in
theorem p299_j59_ok (d : Nat) (F : Nat) (K4 : HS → Int32 → Int32 → Option (Int32 × HS)) (hK4 : ∀ (h : HS) (w : WF h) (u1 : Int32) (u2 : Int32) (r : Int32 × HS), K4 h u1 u2 = some r → ex (d + 6) 299 (4, [some (.ref (86)), some (.int (u1)), some (.int (u2))], [], h) = some (some (.int (r.1)), r.2)) (h : HS) (w : WF h) (v1 : Int32) (v2 : Int32) (r : Int32 × HS) (hp : p299_j59 F K4 h v1 v2 = some r) : ex (d + 6) 299 (59, [some (.ref (86)), some (.int (v1)), some (.int (v2))], [], h) = some (some (.int (r.1)), r.2) := by
  unfold p299_j59 at hp
  refine e_iinc (ls2 := [some (.ref (86)), some (.int (v1)), some (.int ((v2) + 1))]) f299_59 (by decide) rfl rfl ?_
  refine e_goto f299_62 ?_
  refine ex_weak (ls := [some (.ref (86)), some (.int (v1)), some (.int ((v2) + 1))]) (le2_ok ⟨Or.inr rfl, Or.inr rfl, Or.inr rfl, trivial⟩) ?_
  exact hK4 (h) (w) (v1) ((v2) + 1) _ hp
set_option maxRecDepth 100000 in
set_option maxHeartbeats 4000000 in
theorem p299_j59_w (F : Nat) (K4 : HS → Int32 → Int32 → Option (Int32 × HS)) (hK4 : ∀ (h : HS) (w : WF h) (u1 : Int32) (u2 : Int32) (r : Int32 × HS), K4 h u1 u2 = some r → WF r.2) (h : HS) (w : WF h) (v1 : Int32) (v2 : Int32) (r : Int32 × HS) (hp : p299_j59 F K4 h v1 v2 = some r) : WF r.2 := by
  unfold p299_j59 at hp
  exact hK4 (h) (w) (v1) ((v2) + 1) _ hp
set_option maxRecDepth 100000 in
set_option maxHeartbeats 4000000 in
theorem p299_L4_ok (d : Nat) (F : Nat) : ∀ (n : Nat) (h : HS) (w : WF h) (v1 : Int32) (v2 : Int32) (r : Int32 × HS), p299_L4 F n h v1 v2 = some r → ex (d + 6) 299 (4, [some (.ref (86)), some (.int (v1)), some (.int (v2))], [], h) = some (some (.int (r.1)), r.2) := by
  intro n
  induction n with
  | zero => intro h w v1 v2 r hp; cases hp
  | succ n ih =>
    intro h w v1 v2 r hp
    unfold p299_L4 at hp
    refine e_iload_n f299_4 rfl ?_
    refine e_aload_n f299_5 rfl ?_
    refine e_getI f299_6 (WF.t w 86 (by decide)) (by decide) ?_
    by_cases hc1 : (v2) < ((hI (h) (86) 20) : Int32)
    · rw [if_pos hc1] at hp
      refine e_icmp_ge_f f299_9 hc1 ?_
      refine e_aload_n f299_12 rfl ?_
      refine e_getR f299_13 (WF.t w 86 (by decide)) rfl (WF.r (q := 101) w 86 23 (by decide)) ?_
      refine e_iload_n f299_16 rfl ?_
      by_cases hg2 : (v2) < (0 : Int32) ∨ 60 ≤ (v2).toNatClampNeg
      · rw [if_pos hg2] at hp; cases hp
      rw [if_neg hg2] at hp
      refine e_iaload f299_17 (Or.inl (WF.t w 101 (by decide))) (WF.n w 101 (by decide)) hg2 ?_
      refine e_iconst (v := -1) f299_18 (by decide) ?_
      by_cases hc3 : (hI (h) (101) (v2).toNatClampNeg) = (((-1)) : Int32)
      · rw [if_pos hc3] at hp
        refine e_icmp_eq_t f299_19 hc3 ?_
        refine ex_weak (ls := [some (.ref (86)), some (.int (v1)), some (.int (v2))]) (le2_ok ⟨Or.inr rfl, Or.inr rfl, Or.inr rfl, trivial⟩) ?_
        exact p299_j59_ok d F ((p299_L4 F n)) (ih) (h) (w) (v1) (v2) _ hp
      · rw [if_neg hc3] at hp
        refine e_icmp_eq_f f299_19 hc3 ?_
        refine e_aload_n f299_22 rfl ?_
        refine e_aload_n f299_23 rfl ?_
        refine e_getR f299_24 (WF.t w 86 (by decide)) rfl (WF.r (q := 101) w 86 23 (by decide)) ?_
        refine e_iload_n f299_27 rfl ?_
        by_cases hg4 : (v2) < (0 : Int32) ∨ 60 ≤ (v2).toNatClampNeg
        · rw [if_pos hg4] at hp; cases hp
        rw [if_neg hg4] at hp
        refine e_iaload f299_28 (Or.inl (WF.t w 101 (by decide))) (WF.n w 101 (by decide)) hg4 ?_
        refine e_aload_n f299_29 rfl ?_
        refine e_getI f299_30 (WF.t w 86 (by decide)) (by decide) ?_
        obtain ⟨r5, hr6, hp⟩ := bind_some hp
        try dsimp only at hp
        refine e_callV (st := []) (o := 86) (as := [.int (hI (h) (101) (v2).toNatClampNeg), .int (hI (h) (86) 1)]) f299_33 (by decide) rfl rfl (Nat.le_of_ble_eq_true rfl) (WF.t w 86 (by decide)) (Nat.le_of_ble_eq_true rfl) (p295_ok d F (h) w (hI (h) (101) (v2).toNatClampNeg) (hI (h) (86) 1) r5 hr6) ?_
        show ex _ 299 (36, [some (.ref (86)), some (.int (v1)), some (.int (v2))], [.int (r5.1)], r5.2) = _
        by_cases hc7 : (r5.1) = (0 : Int32)
        · rw [if_pos hc7] at hp
          refine e_if_ne_f f299_36 hc7 ?_
          refine e_aload_n f299_39 rfl ?_
          refine e_getR f299_40 (WF.t (p295_w F (h) w (hI (h) (101) (v2).toNatClampNeg) (hI (h) (86) 1)  r5 hr6) 86 (by decide)) rfl (WF.r (q := 101) (p295_w F (h) w (hI (h) (101) (v2).toNatClampNeg) (hI (h) (86) 1)  r5 hr6) 86 23 (by decide)) ?_
          refine e_iload_n f299_43 rfl ?_
          refine e_iconst (v := -1) f299_44 (by decide) ?_
          by_cases hg8 : (v2) < (0 : Int32) ∨ 60 ≤ (v2).toNatClampNeg
          · rw [if_pos hg8] at hp; cases hp
          rw [if_neg hg8] at hp
          refine e_iastore f299_45 (WF.t (p295_w F (h) w (hI (h) (101) (v2).toNatClampNeg) (hI (h) (86) 1)  r5 hr6) 101 (by decide)) (WF.n (p295_w F (h) w (hI (h) (101) (v2).toNatClampNeg) (hI (h) (86) 1)  r5 hr6) 101 (by decide)) hg8 ?_
          refine e_aload_n f299_46 rfl ?_
          refine e_getR f299_47 (WF.t (p295_w F (h) w (hI (h) (101) (v2).toNatClampNeg) (hI (h) (86) 1)  r5 hr6) 86 (by decide)) rfl (WF.r (q := 102) (p295_w F (h) w (hI (h) (101) (v2).toNatClampNeg) (hI (h) (86) 1)  r5 hr6) 86 24 (by decide)) ?_
          refine e_iload_n f299_50 rfl ?_
          refine e_dup2 f299_51 rfl rfl ?_
          by_cases hg9 : (v2) < (0 : Int32) ∨ 60 ≤ (v2).toNatClampNeg
          · rw [if_pos hg9] at hp; cases hp
          rw [if_neg hg9] at hp
          refine e_iaload f299_52 (Or.inl (WF.t (p295_w F (h) w (hI (h) (101) (v2).toNatClampNeg) (hI (h) (86) 1)  r5 hr6) 102 (by decide))) (WF.n (p295_w F (h) w (hI (h) (101) (v2).toNatClampNeg) (hI (h) (86) 1)  r5 hr6) 102 (by decide)) hg9 ?_
          refine e_iconst (v := 1) f299_53 (by decide) ?_
          refine e_iadd f299_54 ?_
          by_cases hg10 : (v2) < (0 : Int32) ∨ 60 ≤ (v2).toNatClampNeg
          · rw [if_pos hg10] at hp; cases hp
          rw [if_neg hg10] at hp
          refine e_iastore f299_55 (WF.t (p295_w F (h) w (hI (h) (101) (v2).toNatClampNeg) (hI (h) (86) 1)  r5 hr6) 102 (by decide)) (WF.n (p295_w F (h) w (hI (h) (101) (v2).toNatClampNeg) (hI (h) (86) 1)  r5 hr6) 102 (by decide)) hg10 ?_
          obtain ⟨h11, e12, hp⟩ := bind_some hp
          try dsimp only at hp
          have e12 := Option.some.inj e12
          have w13 : WF h11 := e12 ▸ (p295_w F (h) w (hI (h) (101) (v2).toNatClampNeg) (hI (h) (86) 1)  r5 hr6)
          rw [e12]
          refine e_iinc (ls2 := [some (.ref (86)), some (.int ((v1) + 1)), some (.int (v2))]) f299_56 (by decide) rfl rfl ?_
          refine ex_weak (ls := [some (.ref (86)), some (.int ((v1) + 1)), some (.int (v2))]) (le2_ok ⟨Or.inr rfl, Or.inr rfl, Or.inr rfl, trivial⟩) ?_
          exact p299_j59_ok d F ((p299_L4 F n)) (ih) (h11) (w13) ((v1) + 1) (v2) _ hp
        · rw [if_neg hc7] at hp
          refine e_if_ne_t f299_36 hc7 ?_
          refine ex_weak (ls := [some (.ref (86)), some (.int (v1)), some (.int (v2))]) (le2_ok ⟨Or.inr rfl, Or.inr rfl, Or.inr rfl, trivial⟩) ?_
          exact p299_j59_ok d F ((p299_L4 F n)) (ih) (r5.2) ((p295_w F (h) w (hI (h) (101) (v2).toNatClampNeg) (hI (h) (86) 1)  r5 hr6)) (v1) (v2) _ hp
    · rw [if_neg hc1] at hp
      refine e_icmp_ge_t f299_9 hc1 ?_
      refine e_iload_n f299_65 rfl ?_
      have hp := Option.some.inj hp
      subst hp
      exact e_ireturn f299_66 (Or.inl rfl)
set_option maxRecDepth 100000 in
set_option maxHeartbeats 4000000 in
theorem p299_L4_w (F : Nat) : ∀ (n : Nat) (h : HS) (w : WF h) (v1 : Int32) (v2 : Int32) (r : Int32 × HS), p299_L4 F n h v1 v2 = some r → WF r.2 := by
  intro n
  induction n with
  | zero => intro h w v1 v2 r hp; cases hp
  | succ n ih =>
    intro h w v1 v2 r hp
    unfold p299_L4 at hp
    by_cases hc1 : (v2) < ((hI (h) (86) 20) : Int32)
    · rw [if_pos hc1] at hp
      by_cases hg2 : (v2) < (0 : Int32) ∨ 60 ≤ (v2).toNatClampNeg
      · rw [if_pos hg2] at hp; cases hp
      rw [if_neg hg2] at hp
      by_cases hc3 : (hI (h) (101) (v2).toNatClampNeg) = (((-1)) : Int32)
      · rw [if_pos hc3] at hp
        exact p299_j59_w F ((p299_L4 F n)) (ih) (h) (w) (v1) (v2) _ hp
      · rw [if_neg hc3] at hp
        by_cases hg4 : (v2) < (0 : Int32) ∨ 60 ≤ (v2).toNatClampNeg
        · rw [if_pos hg4] at hp; cases hp
        rw [if_neg hg4] at hp
        obtain ⟨r5, hr6, hp⟩ := bind_some hp
        try dsimp only at hp
        by_cases hc7 : (r5.1) = (0 : Int32)
        · rw [if_pos hc7] at hp
          by_cases hg8 : (v2) < (0 : Int32) ∨ 60 ≤ (v2).toNatClampNeg
          · rw [if_pos hg8] at hp; cases hp
          rw [if_neg hg8] at hp
          by_cases hg9 : (v2) < (0 : Int32) ∨ 60 ≤ (v2).toNatClampNeg
          · rw [if_pos hg9] at hp; cases hp
          rw [if_neg hg9] at hp
          by_cases hg10 : (v2) < (0 : Int32) ∨ 60 ≤ (v2).toNatClampNeg
          · rw [if_pos hg10] at hp; cases hp
          rw [if_neg hg10] at hp
          obtain ⟨h11, e12, hp⟩ := bind_some hp
          try dsimp only at hp
          have e12 := Option.some.inj e12
          have w13 : WF h11 := e12 ▸ (p295_w F (h) w (hI (h) (101) (v2).toNatClampNeg) (hI (h) (86) 1)  r5 hr6)
          exact p299_j59_w F ((p299_L4 F n)) (ih) (h11) (w13) ((v1) + 1) (v2) _ hp
        · rw [if_neg hc7] at hp
          exact p299_j59_w F ((p299_L4 F n)) (ih) (r5.2) ((p295_w F (h) w (hI (h) (101) (v2).toNatClampNeg) (hI (h) (86) 1)  r5 hr6)) (v1) (v2) _ hp
    · rw [if_neg hc1] at hp
      have hp := Option.some.inj hp
      subst hp
      exact (w)
set_option maxRecDepth 100000 in
set_option maxHeartbeats 4000000 in
theorem p299_ok (d : Nat) (F : Nat) (h : HS) (w : WF h) (r : Int32 × HS) (hp : p299 F h = some r) : ex (d + 6) 299 (ent 299 [.ref (86)] h) = some (some (.int (r.1)), r.2) := by
  rw [show ent 299 [.ref (86)] h = (0, [some (.ref (86)), none, none], [], h) from by  rfl]
  refine ex_weak (ls := [some (.ref (86)), none, none]) (le2_ok ⟨Or.inr rfl, Or.inr rfl, Or.inr rfl, trivial⟩) ?_
  unfold p299 at hp
  refine e_iconst (v := 0) f299_0 (by decide) ?_
  refine e_istore_n (ls2 := [some (.ref (86)), some (.int (0)), none]) f299_1 (Nat.le_of_ble_eq_true rfl) rfl ?_
  refine e_iconst (v := 0) f299_2 (by decide) ?_
  refine e_istore_n (ls2 := [some (.ref (86)), some (.int (0)), some (.int (0))]) f299_3 (Nat.le_of_ble_eq_true rfl) rfl ?_
  refine ex_weak (ls := [some (.ref (86)), some (.int (0)), some (.int (0))]) (le2_ok ⟨Or.inr rfl, Or.inr rfl, Or.inr rfl, trivial⟩) ?_
  exact p299_L4_ok d F F (h) (w) (0) (0) _ hp
set_option maxRecDepth 100000 in
set_option maxHeartbeats 4000000 in
theorem p299_w (F : Nat) (h : HS) (w : WF h) (r : Int32 × HS) (hp : p299 F h = some r) : WF r.2 := by
  unfold p299 at hp
  exact p299_L4_w F F (h) (w) (0) (0) _ hp
theorem f300_0 : fetch 300 0 = some (.aload_n 0, 0, 0, 0) := rfl
theorem f300_1 : fetch 300 1 = some (.iload_n 1, 0, 0, 0) := rfl
theorem f300_2 : fetch 300 2 = some (.invokevirtual 320, 213, 1, 0) := rfl
theorem f300_5 : fetch 300 5 = some (.ifCond .eq 12, 17, 0, 0) := rfl
theorem f300_8 : fetch 300 8 = some (.iload_n 2, 0, 0, 0) := rfl
theorem f300_9 : fetch 300 9 = some (.iconst 0, 0, 0, 0) := rfl
theorem f300_10 : fetch 300 10 = some (.iconst 2, 0, 0, 0) := rfl
theorem f300_11 : fetch 300 11 = some (.invokestatic 240, 187, 3, 1) := rfl
theorem f300_14 : fetch 300 14 = some (.ifCond .ne 6, 20, 0, 0) := rfl
theorem f300_17 : fetch 300 17 = some (.bipush (-2), 0, 0, 0) := rfl
theorem f300_19 : fetch 300 19 = some (.ireturn, 0, 0, 0) := rfl
theorem f300_20 : fetch 300 20 = some (.iload_n 2, 0, 0, 0) := rfl
theorem f300_21 : fetch 300 21 = some (.ifCond .ne 26, 47, 0, 0) := rfl
theorem f300_24 : fetch 300 24 = some (.aload_n 0, 0, 0, 0) := rfl
theorem f300_25 : fetch 300 25 = some (.getfield 52, 12, 23, 2) := rfl
theorem f300_28 : fetch 300 28 = some (.iload_n 1, 0, 0, 0) := rfl
theorem f300_29 : fetch 300 29 = some (.iaload, 0, 0, 0) := rfl
theorem f300_30 : fetch 300 30 = some (.iconst (-1), 0, 0, 0) := rfl
theorem f300_31 : fetch 300 31 = some (.if_icmp .ne 12, 43, 0, 0) := rfl
theorem f300_34 : fetch 300 34 = some (.aload_n 0, 0, 0, 0) := rfl
theorem f300_35 : fetch 300 35 = some (.getfield 49, 12, 22, 2) := rfl
theorem f300_38 : fetch 300 38 = some (.iload_n 1, 0, 0, 0) := rfl
theorem f300_39 : fetch 300 39 = some (.iaload, 0, 0, 0) := rfl
theorem f300_40 : fetch 300 40 = some (.goto 27, 67, 0, 0) := rfl
theorem f300_43 : fetch 300 43 = some (.iconst (-1), 0, 0, 0) := rfl
theorem f300_44 : fetch 300 44 = some (.goto 23, 67, 0, 0) := rfl
theorem f300_47 : fetch 300 47 = some (.iload_n 2, 0, 0, 0) := rfl
theorem f300_48 : fetch 300 48 = some (.iconst 1, 0, 0, 0) := rfl
theorem f300_49 : fetch 300 49 = some (.if_icmp .ne 12, 61, 0, 0) := rfl
theorem f300_52 : fetch 300 52 = some (.aload_n 0, 0, 0, 0) := rfl
theorem f300_53 : fetch 300 53 = some (.getfield 52, 12, 23, 2) := rfl
theorem f300_56 : fetch 300 56 = some (.iload_n 1, 0, 0, 0) := rfl
theorem f300_57 : fetch 300 57 = some (.iaload, 0, 0, 0) := rfl
theorem f300_58 : fetch 300 58 = some (.goto 9, 67, 0, 0) := rfl
theorem f300_61 : fetch 300 61 = some (.aload_n 0, 0, 0, 0) := rfl
theorem f300_62 : fetch 300 62 = some (.getfield 55, 12, 24, 2) := rfl
theorem f300_65 : fetch 300 65 = some (.iload_n 1, 0, 0, 0) := rfl
theorem f300_66 : fetch 300 66 = some (.iaload, 0, 0, 0) := rfl
theorem f300_67 : fetch 300 67 = some (.ireturn, 0, 0, 0) := rfl
set_option maxRecDepth 100000 in
set_option maxHeartbeats 4000000 in
theorem p300_ok (d : Nat) (h : HS) (w : WF h) (a0 : Int32) (a1 : Int32) (r : Int32) (hp : p300 h a0 a1 = some r) : ex (d + 2) 300 (ent 300 [.ref (86), .int (a0), .int (a1)] h) = some (some (.int (r)), h) := by
  rw [show ent 300 [.ref (86), .int (a0), .int (a1)] h = (0, [some (.ref (86)), some (.int (a0)), some (.int (a1))], [], h) from by  rfl]
  refine ex_weak (ls := [some (.ref (86)), some (.int (a0)), some (.int (a1))]) (le2_ok ⟨Or.inr rfl, Or.inr rfl, Or.inr rfl, trivial⟩) ?_
  unfold p300 at hp
  refine e_aload_n f300_0 rfl ?_
  refine e_iload_n f300_1 rfl ?_
  obtain ⟨r1, hr2, hp⟩ := bind_some hp
  try dsimp only at hp
  refine e_callV (st := []) (o := 86) (as := [.int (a0)]) f300_2 (by decide) rfl rfl (Nat.le_of_ble_eq_true rfl) (WF.t w 86 (by decide)) (Nat.le_of_ble_eq_true rfl) (p213_ok d (h) w (a0) r1 hr2) ?_
  show ex _ 300 (5, [some (.ref (86)), some (.int (a0)), some (.int (a1))], [.int (r1)], h) = _
  by_cases hc3 : (r1) = (0 : Int32)
  · rw [if_pos hc3] at hp
    refine e_if_eq_t f300_5 hc3 ?_
    refine e_bipush (v := -2) f300_17 (by decide) ?_
    have hp := Option.some.inj hp
    subst hp
    exact e_ireturn f300_19 (Or.inl rfl)
  · rw [if_neg hc3] at hp
    refine e_if_eq_f f300_5 hc3 ?_
    refine e_iload_n f300_8 rfl ?_
    refine e_iconst (v := 0) f300_9 (by decide) ?_
    refine e_iconst (v := 2) f300_10 (by decide) ?_
    obtain ⟨r4, hr5, hp⟩ := bind_some hp
    try dsimp only at hp
    refine e_callS (st := []) (as := [.int (a1), .int (0), .int (2)]) f300_11 (by decide) rfl rfl (Nat.le_of_ble_eq_true rfl) (Nat.le_of_ble_eq_true rfl) (p187_ok (d + 1) (h) w (a1) (0) (2) r4 hr5) ?_
    show ex _ 300 (14, [some (.ref (86)), some (.int (a0)), some (.int (a1))], [.int (r4)], h) = _
    by_cases hc6 : (r4) = (0 : Int32)
    · rw [if_pos hc6] at hp
      refine e_if_ne_f f300_14 hc6 ?_
      refine e_bipush (v := -2) f300_17 (by decide) ?_
      have hp := Option.some.inj hp
      subst hp
      exact e_ireturn f300_19 (Or.inl rfl)
    · rw [if_neg hc6] at hp
      refine e_if_ne_t f300_14 hc6 ?_
      refine e_iload_n f300_20 rfl ?_
      by_cases hc7 : (a1) = (0 : Int32)
      · rw [if_pos hc7] at hp
        refine e_if_ne_f f300_21 hc7 ?_
        refine e_aload_n f300_24 rfl ?_
        refine e_getR f300_25 (WF.t w 86 (by decide)) rfl (WF.r (q := 101) w 86 23 (by decide)) ?_
        refine e_iload_n f300_28 rfl ?_
        by_cases hg8 : (a0) < (0 : Int32) ∨ 60 ≤ (a0).toNatClampNeg
        · rw [if_pos hg8] at hp; cases hp
        rw [if_neg hg8] at hp
        refine e_iaload f300_29 (Or.inl (WF.t w 101 (by decide))) (WF.n w 101 (by decide)) hg8 ?_
        refine e_iconst (v := -1) f300_30 (by decide) ?_
        by_cases hc9 : (hI (h) (101) (a0).toNatClampNeg) = (((-1)) : Int32)
        · rw [if_pos hc9] at hp
          refine e_icmp_ne_f f300_31 hc9 ?_
          refine e_aload_n f300_34 rfl ?_
          refine e_getR f300_35 (WF.t w 86 (by decide)) rfl (WF.r (q := 100) w 86 22 (by decide)) ?_
          refine e_iload_n f300_38 rfl ?_
          by_cases hg10 : (a0) < (0 : Int32) ∨ 60 ≤ (a0).toNatClampNeg
          · rw [if_pos hg10] at hp; cases hp
          rw [if_neg hg10] at hp
          refine e_iaload f300_39 (Or.inl (WF.t w 100 (by decide))) (WF.n w 100 (by decide)) hg10 ?_
          refine e_goto f300_40 ?_
          have hp := Option.some.inj hp
          subst hp
          exact e_ireturn f300_67 (Or.inl rfl)
        · rw [if_neg hc9] at hp
          refine e_icmp_ne_t f300_31 hc9 ?_
          refine e_iconst (v := -1) f300_43 (by decide) ?_
          refine e_goto f300_44 ?_
          have hp := Option.some.inj hp
          subst hp
          exact e_ireturn f300_67 (Or.inl rfl)
      · rw [if_neg hc7] at hp
        refine e_if_ne_t f300_21 hc7 ?_
        refine e_iload_n f300_47 rfl ?_
        refine e_iconst (v := 1) f300_48 (by decide) ?_
        by_cases hc11 : (a1) = ((1) : Int32)
        · rw [if_pos hc11] at hp
          refine e_icmp_ne_f f300_49 hc11 ?_
          refine e_aload_n f300_52 rfl ?_
          refine e_getR f300_53 (WF.t w 86 (by decide)) rfl (WF.r (q := 101) w 86 23 (by decide)) ?_
          refine e_iload_n f300_56 rfl ?_
          by_cases hg12 : (a0) < (0 : Int32) ∨ 60 ≤ (a0).toNatClampNeg
          · rw [if_pos hg12] at hp; cases hp
          rw [if_neg hg12] at hp
          refine e_iaload f300_57 (Or.inl (WF.t w 101 (by decide))) (WF.n w 101 (by decide)) hg12 ?_
          refine e_goto f300_58 ?_
          have hp := Option.some.inj hp
          subst hp
          exact e_ireturn f300_67 (Or.inl rfl)
        · rw [if_neg hc11] at hp
          refine e_icmp_ne_t f300_49 hc11 ?_
          refine e_aload_n f300_61 rfl ?_
          refine e_getR f300_62 (WF.t w 86 (by decide)) rfl (WF.r (q := 102) w 86 24 (by decide)) ?_
          refine e_iload_n f300_65 rfl ?_
          by_cases hg13 : (a0) < (0 : Int32) ∨ 60 ≤ (a0).toNatClampNeg
          · rw [if_pos hg13] at hp; cases hp
          rw [if_neg hg13] at hp
          refine e_iaload f300_66 (Or.inl (WF.t w 102 (by decide))) (WF.n w 102 (by decide)) hg13 ?_
          have hp := Option.some.inj hp
          subst hp
          exact e_ireturn f300_67 (Or.inl rfl)
theorem f301_0 : fetch 301 0 = some (.aload_n 0, 0, 0, 0) := rfl
theorem f301_1 : fetch 301 1 = some (.getfield 592, 12, 91, 0) := rfl
theorem f301_4 : fetch 301 4 = some (.bipush 12, 0, 0, 0) := rfl
theorem f301_6 : fetch 301 6 = some (.if_icmp .eq 24, 30, 0, 0) := rfl
theorem f301_9 : fetch 301 9 = some (.iload_n 1, 0, 0, 0) := rfl
theorem f301_10 : fetch 301 10 = some (.iconst 1, 0, 0, 0) := rfl
theorem f301_11 : fetch 301 11 = some (.sipush 511, 0, 0, 0) := rfl
theorem f301_14 : fetch 301 14 = some (.invokestatic 240, 187, 3, 1) := rfl
theorem f301_17 : fetch 301 17 = some (.ifCond .eq 13, 30, 0, 0) := rfl
theorem f301_20 : fetch 301 20 = some (.iload_n 2, 0, 0, 0) := rfl
theorem f301_21 : fetch 301 21 = some (.iconst 1, 0, 0, 0) := rfl
theorem f301_22 : fetch 301 22 = some (.bipush 99, 0, 0, 0) := rfl
theorem f301_24 : fetch 301 24 = some (.invokestatic 240, 187, 3, 1) := rfl
theorem f301_27 : fetch 301 27 = some (.ifCond .ne 5, 32, 0, 0) := rfl
theorem f301_30 : fetch 301 30 = some (.iconst (-1), 0, 0, 0) := rfl
theorem f301_31 : fetch 301 31 = some (.ireturn, 0, 0, 0) := rfl
theorem f301_32 : fetch 301 32 = some (.aload_n 0, 0, 0, 0) := rfl
theorem f301_33 : fetch 301 33 = some (.getfield 219, 12, 93, 2) := rfl
theorem f301_36 : fetch 301 36 = some (.aload_n 0, 0, 0, 0) := rfl
theorem f301_37 : fetch 301 37 = some (.getfield 592, 12, 91, 0) := rfl
theorem f301_40 : fetch 301 40 = some (.iload_n 1, 0, 0, 0) := rfl
theorem f301_41 : fetch 301 41 = some (.iastore, 0, 0, 0) := rfl
theorem f301_42 : fetch 301 42 = some (.aload_n 0, 0, 0, 0) := rfl
theorem f301_43 : fetch 301 43 = some (.getfield 222, 12, 94, 2) := rfl
theorem f301_46 : fetch 301 46 = some (.aload_n 0, 0, 0, 0) := rfl
theorem f301_47 : fetch 301 47 = some (.getfield 592, 12, 91, 0) := rfl
theorem f301_50 : fetch 301 50 = some (.iload_n 2, 0, 0, 0) := rfl
theorem f301_51 : fetch 301 51 = some (.iastore, 0, 0, 0) := rfl
theorem f301_52 : fetch 301 52 = some (.aload_n 0, 0, 0, 0) := rfl
theorem f301_53 : fetch 301 53 = some (.dup, 0, 0, 0) := rfl
theorem f301_54 : fetch 301 54 = some (.getfield 592, 12, 91, 0) := rfl
theorem f301_57 : fetch 301 57 = some (.iconst 1, 0, 0, 0) := rfl
theorem f301_58 : fetch 301 58 = some (.iadd, 0, 0, 0) := rfl
theorem f301_59 : fetch 301 59 = some (.putfield 592, 12, 91, 0) := rfl
theorem f301_62 : fetch 301 62 = some (.aload_n 0, 0, 0, 0) := rfl
theorem f301_63 : fetch 301 63 = some (.getfield 592, 12, 91, 0) := rfl
theorem f301_66 : fetch 301 66 = some (.ireturn, 0, 0, 0) := rfl
set_option maxRecDepth 100000 in
set_option maxHeartbeats 4000000 in
theorem p301_ok (d : Nat) (h : HS) (w : WF h) (a0 : Int32) (a1 : Int32) (r : Int32 × HS) (hp : p301 h a0 a1 = some r) : ex (d + 1) 301 (ent 301 [.ref (86), .int (a0), .int (a1)] h) = some (some (.int (r.1)), r.2) := by
  rw [show ent 301 [.ref (86), .int (a0), .int (a1)] h = (0, [some (.ref (86)), some (.int (a0)), some (.int (a1))], [], h) from by  rfl]
  refine ex_weak (ls := [some (.ref (86)), some (.int (a0)), some (.int (a1))]) (le2_ok ⟨Or.inr rfl, Or.inr rfl, Or.inr rfl, trivial⟩) ?_
  unfold p301 at hp
  refine e_aload_n f301_0 rfl ?_
  refine e_getI f301_1 (WF.t w 86 (by decide)) (by decide) ?_
  refine e_bipush (v := 12) f301_4 (by decide) ?_
  by_cases hc1 : (hI (h) (86) 91) = ((12) : Int32)
  · rw [if_pos hc1] at hp
    refine e_icmp_eq_t f301_6 hc1 ?_
    refine e_iconst (v := -1) f301_30 (by decide) ?_
    have hp := Option.some.inj hp
    subst hp
    exact e_ireturn f301_31 (Or.inl rfl)
  · rw [if_neg hc1] at hp
    refine e_icmp_eq_f f301_6 hc1 ?_
    refine e_iload_n f301_9 rfl ?_
    refine e_iconst (v := 1) f301_10 (by decide) ?_
    refine e_sipush (v := 511) f301_11 (by decide) ?_
    obtain ⟨r2, hr3, hp⟩ := bind_some hp
    try dsimp only at hp
    refine e_callS (st := []) (as := [.int (a0), .int (1), .int (511)]) f301_14 (by decide) rfl rfl (Nat.le_of_ble_eq_true rfl) (Nat.le_of_ble_eq_true rfl) (p187_ok d (h) w (a0) (1) (511) r2 hr3) ?_
    show ex _ 301 (17, [some (.ref (86)), some (.int (a0)), some (.int (a1))], [.int (r2)], h) = _
    by_cases hc4 : (r2) = (0 : Int32)
    · rw [if_pos hc4] at hp
      refine e_if_eq_t f301_17 hc4 ?_
      refine e_iconst (v := -1) f301_30 (by decide) ?_
      have hp := Option.some.inj hp
      subst hp
      exact e_ireturn f301_31 (Or.inl rfl)
    · rw [if_neg hc4] at hp
      refine e_if_eq_f f301_17 hc4 ?_
      refine e_iload_n f301_20 rfl ?_
      refine e_iconst (v := 1) f301_21 (by decide) ?_
      refine e_bipush (v := 99) f301_22 (by decide) ?_
      obtain ⟨r5, hr6, hp⟩ := bind_some hp
      try dsimp only at hp
      refine e_callS (st := []) (as := [.int (a1), .int (1), .int (99)]) f301_24 (by decide) rfl rfl (Nat.le_of_ble_eq_true rfl) (Nat.le_of_ble_eq_true rfl) (p187_ok d (h) w (a1) (1) (99) r5 hr6) ?_
      show ex _ 301 (27, [some (.ref (86)), some (.int (a0)), some (.int (a1))], [.int (r5)], h) = _
      by_cases hc7 : (r5) = (0 : Int32)
      · rw [if_pos hc7] at hp
        refine e_if_ne_f f301_27 hc7 ?_
        refine e_iconst (v := -1) f301_30 (by decide) ?_
        have hp := Option.some.inj hp
        subst hp
        exact e_ireturn f301_31 (Or.inl rfl)
      · rw [if_neg hc7] at hp
        refine e_if_ne_t f301_27 hc7 ?_
        refine e_aload_n f301_32 rfl ?_
        refine e_getR f301_33 (WF.t w 86 (by decide)) rfl (WF.r (q := 154) w 86 93 (by decide)) ?_
        refine e_aload_n f301_36 rfl ?_
        refine e_getI f301_37 (WF.t w 86 (by decide)) (by decide) ?_
        refine e_iload_n f301_40 rfl ?_
        by_cases hg8 : (hI (h) (86) 91) < (0 : Int32) ∨ 12 ≤ (hI (h) (86) 91).toNatClampNeg
        · rw [if_pos hg8] at hp; cases hp
        rw [if_neg hg8] at hp
        refine e_iastore f301_41 (WF.t w 154 (by decide)) (WF.n w 154 (by decide)) hg8 ?_
        refine e_aload_n f301_42 rfl ?_
        refine e_getR f301_43 (WF.t w 86 (by decide)) rfl (WF.r (q := 155) w 86 94 (by decide)) ?_
        refine e_aload_n f301_46 rfl ?_
        refine e_getI f301_47 (WF.t w 86 (by decide)) (by decide) ?_
        refine e_iload_n f301_50 rfl ?_
        by_cases hg9 : (hI (hsI (h) (154) (hI (h) (86) 91).toNatClampNeg (a0)) (86) 91) < (0 : Int32) ∨ 12 ≤ (hI (hsI (h) (154) (hI (h) (86) 91).toNatClampNeg (a0)) (86) 91).toNatClampNeg
        · rw [if_pos hg9] at hp; cases hp
        rw [if_neg hg9] at hp
        refine e_iastore f301_51 (WF.t w 155 (by decide)) (WF.n w 155 (by decide)) hg9 ?_
        obtain ⟨h10, e11, hp⟩ := bind_some hp
        try dsimp only at hp
        have e11 := Option.some.inj e11
        have w12 : WF h10 := e11 ▸ w
        rw [e11]
        refine e_aload_n f301_52 rfl ?_
        refine e_dup f301_53 rfl ?_
        refine e_getI f301_54 (WF.t w12 86 (by decide)) (by decide) ?_
        refine e_iconst (v := 1) f301_57 (by decide) ?_
        refine e_iadd f301_58 ?_
        refine e_putI f301_59 (WF.t w12 86 (by decide)) rfl ?_
        refine e_aload_n f301_62 rfl ?_
        refine e_getI f301_63 (WF.t w12 86 (by decide)) (by decide) ?_
        have hp := Option.some.inj hp
        subst hp
        exact e_ireturn f301_66 (Or.inl rfl)
set_option maxRecDepth 100000 in
set_option maxHeartbeats 4000000 in
theorem p301_w (h : HS) (w : WF h) (a0 : Int32) (a1 : Int32) (r : Int32 × HS) (hp : p301 h a0 a1 = some r) : WF r.2 := by
  unfold p301 at hp
  by_cases hc1 : (hI (h) (86) 91) = ((12) : Int32)
  · rw [if_pos hc1] at hp
    have hp := Option.some.inj hp
    subst hp
    exact (w)
  · rw [if_neg hc1] at hp
    obtain ⟨r2, hr3, hp⟩ := bind_some hp
    try dsimp only at hp
    by_cases hc4 : (r2) = (0 : Int32)
    · rw [if_pos hc4] at hp
      have hp := Option.some.inj hp
      subst hp
      exact (w)
    · rw [if_neg hc4] at hp
      obtain ⟨r5, hr6, hp⟩ := bind_some hp
      try dsimp only at hp
      by_cases hc7 : (r5) = (0 : Int32)
      · rw [if_pos hc7] at hp
        have hp := Option.some.inj hp
        subst hp
        exact (w)
      · rw [if_neg hc7] at hp
        by_cases hg8 : (hI (h) (86) 91) < (0 : Int32) ∨ 12 ≤ (hI (h) (86) 91).toNatClampNeg
        · rw [if_pos hg8] at hp; cases hp
        rw [if_neg hg8] at hp
        by_cases hg9 : (hI (hsI (h) (154) (hI (h) (86) 91).toNatClampNeg (a0)) (86) 91) < (0 : Int32) ∨ 12 ≤ (hI (hsI (h) (154) (hI (h) (86) 91).toNatClampNeg (a0)) (86) 91).toNatClampNeg
        · rw [if_pos hg9] at hp; cases hp
        rw [if_neg hg9] at hp
        obtain ⟨h10, e11, hp⟩ := bind_some hp
        try dsimp only at hp
        have e11 := Option.some.inj e11
        have w12 : WF h10 := e11 ▸ w
        have hp := Option.some.inj hp
        subst hp
        exact (w12)
theorem f302_0 : fetch 302 0 = some (.lconst 0, 0, 0, 0) := rfl
theorem f302_1 : fetch 302 1 = some (.lstore_n 3, 0, 0, 0) := rfl
theorem f302_2 : fetch 302 2 = some (.iconst 0, 0, 0, 0) := rfl
theorem f302_3 : fetch 302 3 = some (.istore 5, 0, 0, 0) := rfl
theorem f302_5 : fetch 302 5 = some (.iload 5, 0, 0, 0) := rfl
theorem f302_7 : fetch 302 7 = some (.bipush 9, 0, 0, 0) := rfl
theorem f302_9 : fetch 302 9 = some (.if_icmp .ge 39, 48, 0, 0) := rfl
theorem f302_12 : fetch 302 12 = some (.lload_n 3, 0, 0, 0) := rfl
theorem f302_13 : fetch 302 13 = some (.iload_n 1, 0, 0, 0) := rfl
theorem f302_14 : fetch 302 14 = some (.iload 5, 0, 0, 0) := rfl
theorem f302_16 : fetch 302 16 = some (.ishr, 0, 0, 0) := rfl
theorem f302_17 : fetch 302 17 = some (.iconst 1, 0, 0, 0) := rfl
theorem f302_18 : fetch 302 18 = some (.iand, 0, 0, 0) := rfl
theorem f302_19 : fetch 302 19 = some (.iconst 1, 0, 0, 0) := rfl
theorem f302_20 : fetch 302 20 = some (.if_icmp .ne 19, 39, 0, 0) := rfl
theorem f302_23 : fetch 302 23 = some (.aload_n 0, 0, 0, 0) := rfl
theorem f302_24 : fetch 302 24 = some (.getfield 9, 12, 4, 2) := rfl
theorem f302_27 : fetch 302 27 = some (.aload_n 0, 0, 0, 0) := rfl
theorem f302_28 : fetch 302 28 = some (.getfield 225, 12, 95, 2) := rfl
theorem f302_31 : fetch 302 31 = some (.iload 5, 0, 0, 0) := rfl
theorem f302_33 : fetch 302 33 = some (.iaload, 0, 0, 0) := rfl
theorem f302_34 : fetch 302 34 = some (.iaload, 0, 0, 0) := rfl
theorem f302_35 : fetch 302 35 = some (.i2l, 0, 0, 0) := rfl
theorem f302_36 : fetch 302 36 = some (.goto 4, 40, 0, 0) := rfl
theorem f302_39 : fetch 302 39 = some (.lconst 0, 0, 0, 0) := rfl
theorem f302_40 : fetch 302 40 = some (.ladd, 0, 0, 0) := rfl
theorem f302_41 : fetch 302 41 = some (.lstore_n 3, 0, 0, 0) := rfl
theorem f302_42 : fetch 302 42 = some (.iinc 5 1, 0, 0, 0) := rfl
theorem f302_45 : fetch 302 45 = some (.goto (-40), 5, 0, 0) := rfl
theorem f302_48 : fetch 302 48 = some (.lconst 0, 0, 0, 0) := rfl
theorem f302_49 : fetch 302 49 = some (.lstore 5, 0, 0, 0) := rfl
theorem f302_51 : fetch 302 51 = some (.iconst 0, 0, 0, 0) := rfl
theorem f302_52 : fetch 302 52 = some (.istore 7, 0, 0, 0) := rfl
theorem f302_54 : fetch 302 54 = some (.iload 7, 0, 0, 0) := rfl
theorem f302_56 : fetch 302 56 = some (.aload_n 0, 0, 0, 0) := rfl
theorem f302_57 : fetch 302 57 = some (.getfield 592, 12, 91, 0) := rfl
theorem f302_60 : fetch 302 60 = some (.if_icmp .ge 57, 117, 0, 0) := rfl
theorem f302_63 : fetch 302 63 = some (.lload 5, 0, 0, 0) := rfl
theorem f302_65 : fetch 302 65 = some (.aload_n 0, 0, 0, 0) := rfl
theorem f302_66 : fetch 302 66 = some (.getfield 219, 12, 93, 2) := rfl
theorem f302_69 : fetch 302 69 = some (.iload 7, 0, 0, 0) := rfl
theorem f302_71 : fetch 302 71 = some (.iaload, 0, 0, 0) := rfl
theorem f302_72 : fetch 302 72 = some (.iload_n 1, 0, 0, 0) := rfl
theorem f302_73 : fetch 302 73 = some (.iconst (-1), 0, 0, 0) := rfl
theorem f302_74 : fetch 302 74 = some (.ixor, 0, 0, 0) := rfl
theorem f302_75 : fetch 302 75 = some (.iand, 0, 0, 0) := rfl
theorem f302_76 : fetch 302 76 = some (.ifCond .ne 31, 107, 0, 0) := rfl
theorem f302_79 : fetch 302 79 = some (.aload_n 0, 0, 0, 0) := rfl
theorem f302_80 : fetch 302 80 = some (.getfield 219, 12, 93, 2) := rfl
theorem f302_83 : fetch 302 83 = some (.iload 7, 0, 0, 0) := rfl
theorem f302_85 : fetch 302 85 = some (.iaload, 0, 0, 0) := rfl
theorem f302_86 : fetch 302 86 = some (.iload_n 2, 0, 0, 0) := rfl
theorem f302_87 : fetch 302 87 = some (.ishr, 0, 0, 0) := rfl
theorem f302_88 : fetch 302 88 = some (.iconst 1, 0, 0, 0) := rfl
theorem f302_89 : fetch 302 89 = some (.iand, 0, 0, 0) := rfl
theorem f302_90 : fetch 302 90 = some (.iconst 1, 0, 0, 0) := rfl
theorem f302_91 : fetch 302 91 = some (.if_icmp .ne 16, 107, 0, 0) := rfl
theorem f302_94 : fetch 302 94 = some (.aload_n 0, 0, 0, 0) := rfl
theorem f302_95 : fetch 302 95 = some (.getfield 222, 12, 94, 2) := rfl
theorem f302_98 : fetch 302 98 = some (.iload 7, 0, 0, 0) := rfl
theorem f302_100 : fetch 302 100 = some (.iaload, 0, 0, 0) := rfl
theorem f302_101 : fetch 302 101 = some (.i2l, 0, 0, 0) := rfl
theorem f302_102 : fetch 302 102 = some (.lload_n 3, 0, 0, 0) := rfl
theorem f302_103 : fetch 302 103 = some (.lmul, 0, 0, 0) := rfl
theorem f302_104 : fetch 302 104 = some (.goto 4, 108, 0, 0) := rfl
theorem f302_107 : fetch 302 107 = some (.lconst 0, 0, 0, 0) := rfl
theorem f302_108 : fetch 302 108 = some (.ladd, 0, 0, 0) := rfl
theorem f302_109 : fetch 302 109 = some (.lstore 5, 0, 0, 0) := rfl
theorem f302_111 : fetch 302 111 = some (.iinc 7 1, 0, 0, 0) := rfl
theorem f302_114 : fetch 302 114 = some (.goto (-60), 54, 0, 0) := rfl
theorem f302_117 : fetch 302 117 = some (.lload 5, 0, 0, 0) := rfl
theorem f302_119 : fetch 302 119 = some (.lreturn, 0, 0, 0) := rfl
set_option maxRecDepth 100000 in
set_option maxHeartbeats 4000000 in
theorem p302_j108_ok (d : Nat) (F : Nat) (a0 : Int32) (a1 : Int32) (K54 : Int64 → Int64 → Int32 → Option (Int64)) (h : HS) (w : WF h) (hK54 : ∀ (u3 : Int64) (u5 : Int64) (u7 : Int32) (r : Int64), K54 u3 u5 u7 = some r → ex (d + 0) 302 (54, [some (.ref (86)), some (.int (a0)), some (.int (a1)), some (.long (u3)), none, some (.long (u5)), none, some (.int (u7))], [], h) = some (some (.long (r)), h)) (v3 : Int64) (v7 : Int32) (s0 : Int64) (s1 : Int64) (r : Int64) (hp : p302_j108 F a0 a1 K54 h v3 v7 s0 s1 = some r) : ex (d + 0) 302 (108, [some (.ref (86)), some (.int (a0)), some (.int (a1)), some (.long (v3)), none, none, none, some (.int (v7))], [.long (s0), .long (s1)], h) = some (some (.long (r)), h) := by
  unfold p302_j108 at hp
  refine e_ladd f302_108 ?_
  refine e_lstore (ls2 := [some (.ref (86)), some (.int (a0)), some (.int (a1)), some (.long (v3)), none, some (.long ((s1) + (s0))), none, some (.int (v7))]) f302_109 (Nat.le_of_ble_eq_true rfl) rfl ?_
  refine e_iinc (ls2 := [some (.ref (86)), some (.int (a0)), some (.int (a1)), some (.long (v3)), none, some (.long ((s1) + (s0))), none, some (.int ((v7) + 1))]) f302_111 (by decide) rfl rfl ?_
  refine e_goto f302_114 ?_
  refine ex_weak (ls := [some (.ref (86)), some (.int (a0)), some (.int (a1)), some (.long (v3)), none, some (.long ((s1) + (s0))), none, some (.int ((v7) + 1))]) (le2_ok ⟨Or.inr rfl, Or.inr rfl, Or.inr rfl, Or.inr rfl, Or.inl rfl, Or.inr rfl, Or.inl rfl, Or.inr rfl, trivial⟩) ?_
  exact hK54 (v3) ((s1) + (s0)) ((v7) + 1) _ hp
set_option maxRecDepth 100000 in
set_option maxHeartbeats 4000000 in
theorem p302_j40_ok (d : Nat) (F : Nat) (a0 : Int32) (a1 : Int32) (K5 : Int64 → Int32 → Option (Int64)) (h : HS) (w : WF h) (hK5 : ∀ (u3 : Int64) (u5 : Int32) (r : Int64), K5 u3 u5 = some r → ex (d + 0) 302 (5, [some (.ref (86)), some (.int (a0)), some (.int (a1)), some (.long (u3)), none, some (.int (u5)), none, none], [], h) = some (some (.long (r)), h)) (v5 : Int32) (s0 : Int64) (s1 : Int64) (r : Int64) (hp : p302_j40 F a0 a1 K5 h v5 s0 s1 = some r) : ex (d + 0) 302 (40, [some (.ref (86)), some (.int (a0)), some (.int (a1)), none, none, some (.int (v5)), none, none], [.long (s0), .long (s1)], h) = some (some (.long (r)), h) := by
  unfold p302_j40 at hp
  refine e_ladd f302_40 ?_
  refine e_lstore_n (ls2 := [some (.ref (86)), some (.int (a0)), some (.int (a1)), some (.long ((s1) + (s0))), none, some (.int (v5)), none, none]) f302_41 (Nat.le_of_ble_eq_true rfl) rfl ?_
  refine e_iinc (ls2 := [some (.ref (86)), some (.int (a0)), some (.int (a1)), some (.long ((s1) + (s0))), none, some (.int ((v5) + 1)), none, none]) f302_42 (by decide) rfl rfl ?_
  refine e_goto f302_45 ?_
  refine ex_weak (ls := [some (.ref (86)), some (.int (a0)), some (.int (a1)), some (.long ((s1) + (s0))), none, some (.int ((v5) + 1)), none, none]) (le2_ok ⟨Or.inr rfl, Or.inr rfl, Or.inr rfl, Or.inr rfl, Or.inl rfl, Or.inr rfl, Or.inl rfl, Or.inl rfl, trivial⟩) ?_
  exact hK5 ((s1) + (s0)) ((v5) + 1) _ hp
set_option maxRecDepth 100000 in
set_option maxHeartbeats 4000000 in
theorem p302_j107_ok (d : Nat) (F : Nat) (a0 : Int32) (a1 : Int32) (K54 : Int64 → Int64 → Int32 → Option (Int64)) (h : HS) (w : WF h) (hK54 : ∀ (u3 : Int64) (u5 : Int64) (u7 : Int32) (r : Int64), K54 u3 u5 u7 = some r → ex (d + 0) 302 (54, [some (.ref (86)), some (.int (a0)), some (.int (a1)), some (.long (u3)), none, some (.long (u5)), none, some (.int (u7))], [], h) = some (some (.long (r)), h)) (v3 : Int64) (v7 : Int32) (s0 : Int64) (r : Int64) (hp : p302_j107 F a0 a1 K54 h v3 v7 s0 = some r) : ex (d + 0) 302 (107, [some (.ref (86)), some (.int (a0)), some (.int (a1)), some (.long (v3)), none, none, none, some (.int (v7))], [.long (s0)], h) = some (some (.long (r)), h) := by
  unfold p302_j107 at hp
  refine e_lconst (v := 0) f302_107 (by decide) ?_
  refine ex_weak (ls := [some (.ref (86)), some (.int (a0)), some (.int (a1)), some (.long (v3)), none, none, none, some (.int (v7))]) (le2_ok ⟨Or.inr rfl, Or.inr rfl, Or.inr rfl, Or.inr rfl, Or.inl rfl, Or.inl rfl, Or.inl rfl, Or.inr rfl, trivial⟩) ?_
  exact p302_j108_ok d F a0 a1 (K54) (h) (w) (hK54) (v3) (v7) (0) (s0) _ hp
set_option maxRecDepth 100000 in
set_option maxHeartbeats 4000000 in
theorem p302_L54_ok (d : Nat) (F : Nat) (a0 : Int32) (a1 : Int32) (h : HS) (w : WF h)  : ∀ (n : Nat) (v3 : Int64) (v5 : Int64) (v7 : Int32) (r : Int64), p302_L54 F a0 a1 n h v3 v5 v7 = some r → ex (d + 0) 302 (54, [some (.ref (86)), some (.int (a0)), some (.int (a1)), some (.long (v3)), none, some (.long (v5)), none, some (.int (v7))], [], h) = some (some (.long (r)), h) := by
  intro n
  induction n with
  | zero => intro v3 v5 v7 r hp; cases hp
  | succ n ih =>
    intro v3 v5 v7 r hp
    unfold p302_L54 at hp
    refine e_iload f302_54 rfl ?_
    refine e_aload_n f302_56 rfl ?_
    refine e_getI f302_57 (WF.t w 86 (by decide)) (by decide) ?_
    by_cases hc5 : (v7) < ((hI (h) (86) 91) : Int32)
    · rw [if_pos hc5] at hp
      refine e_icmp_ge_f f302_60 hc5 ?_
      refine e_lload f302_63 rfl ?_
      refine e_aload_n f302_65 rfl ?_
      refine e_getR f302_66 (WF.t w 86 (by decide)) rfl (WF.r (q := 154) w 86 93 (by decide)) ?_
      refine e_iload f302_69 rfl ?_
      by_cases hg6 : (v7) < (0 : Int32) ∨ 12 ≤ (v7).toNatClampNeg
      · rw [if_pos hg6] at hp; cases hp
      rw [if_neg hg6] at hp
      refine e_iaload f302_71 (Or.inl (WF.t w 154 (by decide))) (WF.n w 154 (by decide)) hg6 ?_
      refine e_iload_n f302_72 rfl ?_
      refine e_iconst (v := -1) f302_73 (by decide) ?_
      refine e_ixor f302_74 ?_
      refine e_iand f302_75 ?_
      by_cases hc7 : ((hI (h) (154) (v7).toNatClampNeg) &&& ((a0) ^^^ ((-1)))) = (0 : Int32)
      · rw [if_pos hc7] at hp
        refine e_if_ne_f f302_76 hc7 ?_
        refine e_aload_n f302_79 rfl ?_
        refine e_getR f302_80 (WF.t w 86 (by decide)) rfl (WF.r (q := 154) w 86 93 (by decide)) ?_
        refine e_iload f302_83 rfl ?_
        by_cases hg8 : (v7) < (0 : Int32) ∨ 12 ≤ (v7).toNatClampNeg
        · rw [if_pos hg8] at hp; cases hp
        rw [if_neg hg8] at hp
        refine e_iaload f302_85 (Or.inl (WF.t w 154 (by decide))) (WF.n w 154 (by decide)) hg8 ?_
        refine e_iload_n f302_86 rfl ?_
        refine e_ishr f302_87 ?_
        refine e_iconst (v := 1) f302_88 (by decide) ?_
        refine e_iand f302_89 ?_
        refine e_iconst (v := 1) f302_90 (by decide) ?_
        by_cases hc9 : (((hI (h) (154) (v7).toNatClampNeg) >>> ((a1) &&& 31)) &&& (1)) = ((1) : Int32)
        · rw [if_pos hc9] at hp
          refine e_icmp_ne_f f302_91 hc9 ?_
          refine e_aload_n f302_94 rfl ?_
          refine e_getR f302_95 (WF.t w 86 (by decide)) rfl (WF.r (q := 155) w 86 94 (by decide)) ?_
          refine e_iload f302_98 rfl ?_
          by_cases hg10 : (v7) < (0 : Int32) ∨ 12 ≤ (v7).toNatClampNeg
          · rw [if_pos hg10] at hp; cases hp
          rw [if_neg hg10] at hp
          refine e_iaload f302_100 (Or.inl (WF.t w 155 (by decide))) (WF.n w 155 (by decide)) hg10 ?_
          refine e_i2l f302_101 ?_
          refine e_lload_n f302_102 rfl ?_
          refine e_lmul f302_103 ?_
          refine e_goto f302_104 ?_
          refine ex_weak (ls := [some (.ref (86)), some (.int (a0)), some (.int (a1)), some (.long (v3)), none, none, none, some (.int (v7))]) (le2_ok ⟨Or.inr rfl, Or.inr rfl, Or.inr rfl, Or.inr rfl, Or.inl rfl, Or.inl rfl, Or.inl rfl, Or.inr rfl, trivial⟩) ?_
          exact p302_j108_ok d F a0 a1 ((p302_L54 F a0 a1 n h)) (h) (w) (ih) (v3) (v7) (((hI (h) (155) (v7).toNatClampNeg).toInt64) * (v3)) (v5) _ hp
        · rw [if_neg hc9] at hp
          refine e_icmp_ne_t f302_91 hc9 ?_
          refine ex_weak (ls := [some (.ref (86)), some (.int (a0)), some (.int (a1)), some (.long (v3)), none, none, none, some (.int (v7))]) (le2_ok ⟨Or.inr rfl, Or.inr rfl, Or.inr rfl, Or.inr rfl, Or.inl rfl, Or.inl rfl, Or.inl rfl, Or.inr rfl, trivial⟩) ?_
          exact p302_j107_ok d F a0 a1 ((p302_L54 F a0 a1 n h)) (h) (w) (ih) (v3) (v7) (v5) _ hp
      · rw [if_neg hc7] at hp
        refine e_if_ne_t f302_76 hc7 ?_
        refine ex_weak (ls := [some (.ref (86)), some (.int (a0)), some (.int (a1)), some (.long (v3)), none, none, none, some (.int (v7))]) (le2_ok ⟨Or.inr rfl, Or.inr rfl, Or.inr rfl, Or.inr rfl, Or.inl rfl, Or.inl rfl, Or.inl rfl, Or.inr rfl, trivial⟩) ?_
        exact p302_j107_ok d F a0 a1 ((p302_L54 F a0 a1 n h)) (h) (w) (ih) (v3) (v7) (v5) _ hp
    · rw [if_neg hc5] at hp
      refine e_icmp_ge_t f302_60 hc5 ?_
      refine e_lload f302_117 rfl ?_
      have hp := Option.some.inj hp
      subst hp
      exact e_lreturn f302_119
set_option maxRecDepth 100000 in
set_option maxHeartbeats 4000000 in
theorem p302_L5_ok (d : Nat) (F : Nat) (a0 : Int32) (a1 : Int32) (h : HS) (w : WF h)  : ∀ (n : Nat) (v3 : Int64) (v5 : Int32) (r : Int64), p302_L5 F a0 a1 n h v3 v5 = some r → ex (d + 0) 302 (5, [some (.ref (86)), some (.int (a0)), some (.int (a1)), some (.long (v3)), none, some (.int (v5)), none, none], [], h) = some (some (.long (r)), h) := by
  intro n
  induction n with
  | zero => intro v3 v5 r hp; cases hp
  | succ n ih =>
    intro v3 v5 r hp
    unfold p302_L5 at hp
    refine e_iload f302_5 rfl ?_
    refine e_bipush (v := 9) f302_7 (by decide) ?_
    by_cases hc1 : (v5) < ((9) : Int32)
    · rw [if_pos hc1] at hp
      refine e_icmp_ge_f f302_9 hc1 ?_
      refine e_lload_n f302_12 rfl ?_
      refine e_iload_n f302_13 rfl ?_
      refine e_iload f302_14 rfl ?_
      refine e_ishr f302_16 ?_
      refine e_iconst (v := 1) f302_17 (by decide) ?_
      refine e_iand f302_18 ?_
      refine e_iconst (v := 1) f302_19 (by decide) ?_
      by_cases hc2 : (((a0) >>> ((v5) &&& 31)) &&& (1)) = ((1) : Int32)
      · rw [if_pos hc2] at hp
        refine e_icmp_ne_f f302_20 hc2 ?_
        refine e_aload_n f302_23 rfl ?_
        refine e_getR f302_24 (WF.t w 86 (by decide)) rfl (WF.r (q := 87) w 86 4 (by decide)) ?_
        refine e_aload_n f302_27 rfl ?_
        refine e_getR f302_28 (WF.t w 86 (by decide)) rfl (WF.r (q := 156) w 86 95 (by decide)) ?_
        refine e_iload f302_31 rfl ?_
        by_cases hg3 : (v5) < (0 : Int32) ∨ 9 ≤ (v5).toNatClampNeg
        · rw [if_pos hg3] at hp; cases hp
        rw [if_neg hg3] at hp
        refine e_iaload f302_33 (Or.inl (WF.t w 156 (by decide))) (WF.n w 156 (by decide)) hg3 ?_
        by_cases hg4 : (hI (h) (156) (v5).toNatClampNeg) < (0 : Int32) ∨ 20 ≤ (hI (h) (156) (v5).toNatClampNeg).toNatClampNeg
        · rw [if_pos hg4] at hp; cases hp
        rw [if_neg hg4] at hp
        refine e_iaload f302_34 (Or.inl (WF.t w 87 (by decide))) (WF.n w 87 (by decide)) hg4 ?_
        refine e_i2l f302_35 ?_
        refine e_goto f302_36 ?_
        refine ex_weak (ls := [some (.ref (86)), some (.int (a0)), some (.int (a1)), none, none, some (.int (v5)), none, none]) (le2_ok ⟨Or.inr rfl, Or.inr rfl, Or.inr rfl, Or.inl rfl, Or.inl rfl, Or.inr rfl, Or.inl rfl, Or.inl rfl, trivial⟩) ?_
        exact p302_j40_ok d F a0 a1 ((p302_L5 F a0 a1 n h)) (h) (w) (ih) (v5) ((hI (h) (87) (hI (h) (156) (v5).toNatClampNeg).toNatClampNeg).toInt64) (v3) _ hp
      · rw [if_neg hc2] at hp
        refine e_icmp_ne_t f302_20 hc2 ?_
        refine e_lconst (v := 0) f302_39 (by decide) ?_
        refine ex_weak (ls := [some (.ref (86)), some (.int (a0)), some (.int (a1)), none, none, some (.int (v5)), none, none]) (le2_ok ⟨Or.inr rfl, Or.inr rfl, Or.inr rfl, Or.inl rfl, Or.inl rfl, Or.inr rfl, Or.inl rfl, Or.inl rfl, trivial⟩) ?_
        exact p302_j40_ok d F a0 a1 ((p302_L5 F a0 a1 n h)) (h) (w) (ih) (v5) (0) (v3) _ hp
    · rw [if_neg hc1] at hp
      refine e_icmp_ge_t f302_9 hc1 ?_
      refine e_lconst (v := 0) f302_48 (by decide) ?_
      refine e_lstore (ls2 := [some (.ref (86)), some (.int (a0)), some (.int (a1)), some (.long (v3)), none, some (.long (0)), none, none]) f302_49 (Nat.le_of_ble_eq_true rfl) rfl ?_
      refine e_iconst (v := 0) f302_51 (by decide) ?_
      refine e_istore (ls2 := [some (.ref (86)), some (.int (a0)), some (.int (a1)), some (.long (v3)), none, some (.long (0)), none, some (.int (0))]) f302_52 (Nat.le_of_ble_eq_true rfl) rfl ?_
      refine ex_weak (ls := [some (.ref (86)), some (.int (a0)), some (.int (a1)), some (.long (v3)), none, some (.long (0)), none, some (.int (0))]) (le2_ok ⟨Or.inr rfl, Or.inr rfl, Or.inr rfl, Or.inr rfl, Or.inl rfl, Or.inr rfl, Or.inl rfl, Or.inr rfl, trivial⟩) ?_
      exact p302_L54_ok d F a0 a1 (h) (w) F (v3) (0) (0) _ hp
set_option maxRecDepth 100000 in
set_option maxHeartbeats 4000000 in
theorem p302_ok (d : Nat) (F : Nat) (h : HS) (w : WF h) (a0 : Int32) (a1 : Int32) (r : Int64) (hp : p302 F h a0 a1 = some r) : ex (d + 0) 302 (ent 302 [.ref (86), .int (a0), .int (a1)] h) = some (some (.long (r)), h) := by
  rw [show ent 302 [.ref (86), .int (a0), .int (a1)] h = (0, [some (.ref (86)), some (.int (a0)), some (.int (a1)), none, none, none, none, none], [], h) from by  rfl]
  refine ex_weak (ls := [some (.ref (86)), some (.int (a0)), some (.int (a1)), none, none, none, none, none]) (le2_ok ⟨Or.inr rfl, Or.inr rfl, Or.inr rfl, Or.inr rfl, Or.inr rfl, Or.inr rfl, Or.inr rfl, Or.inr rfl, trivial⟩) ?_
  unfold p302 at hp
  refine e_lconst (v := 0) f302_0 (by decide) ?_
  refine e_lstore_n (ls2 := [some (.ref (86)), some (.int (a0)), some (.int (a1)), some (.long (0)), none, none, none, none]) f302_1 (Nat.le_of_ble_eq_true rfl) rfl ?_
  refine e_iconst (v := 0) f302_2 (by decide) ?_
  refine e_istore (ls2 := [some (.ref (86)), some (.int (a0)), some (.int (a1)), some (.long (0)), none, some (.int (0)), none, none]) f302_3 (Nat.le_of_ble_eq_true rfl) rfl ?_
  refine ex_weak (ls := [some (.ref (86)), some (.int (a0)), some (.int (a1)), some (.long (0)), none, some (.int (0)), none, none]) (le2_ok ⟨Or.inr rfl, Or.inr rfl, Or.inr rfl, Or.inr rfl, Or.inl rfl, Or.inr rfl, Or.inl rfl, Or.inl rfl, trivial⟩) ?_
  exact p302_L5_ok d F a0 a1 (h) (w) F (0) (0) _ hp
theorem f303_0 : fetch 303 0 = some (.iload_n 1, 0, 0, 0) := rfl
theorem f303_1 : fetch 303 1 = some (.iconst 1, 0, 0, 0) := rfl
theorem f303_2 : fetch 303 2 = some (.bipush 9, 0, 0, 0) := rfl
theorem f303_4 : fetch 303 4 = some (.invokestatic 240, 187, 3, 1) := rfl
theorem f303_7 : fetch 303 7 = some (.ifCond .ne 7, 14, 0, 0) := rfl
theorem f303_10 : fetch 303 10 = some (.ldc2_w 595, 0, 0, -1) := rfl
theorem f303_13 : fetch 303 13 = some (.lreturn, 0, 0, 0) := rfl
theorem f303_14 : fetch 303 14 = some (.iconst 0, 0, 0, 0) := rfl
theorem f303_15 : fetch 303 15 = some (.istore 4, 0, 0, 0) := rfl
theorem f303_17 : fetch 303 17 = some (.iload 4, 0, 0, 0) := rfl
theorem f303_19 : fetch 303 19 = some (.iload_n 1, 0, 0, 0) := rfl
theorem f303_20 : fetch 303 20 = some (.if_icmp .ge 82, 102, 0, 0) := rfl
theorem f303_23 : fetch 303 23 = some (.aload_n 0, 0, 0, 0) := rfl
theorem f303_24 : fetch 303 24 = some (.getfield 225, 12, 95, 2) := rfl
theorem f303_27 : fetch 303 27 = some (.iload 4, 0, 0, 0) := rfl
theorem f303_29 : fetch 303 29 = some (.lload_n 2, 0, 0, 0) := rfl
theorem f303_30 : fetch 303 30 = some (.iconst 5, 0, 0, 0) := rfl
theorem f303_31 : fetch 303 31 = some (.iload 4, 0, 0, 0) := rfl
theorem f303_33 : fetch 303 33 = some (.imul, 0, 0, 0) := rfl
theorem f303_34 : fetch 303 34 = some (.lshr, 0, 0, 0) := rfl
theorem f303_35 : fetch 303 35 = some (.ldc2_w 597, 0, 0, 31) := rfl
theorem f303_38 : fetch 303 38 = some (.land, 0, 0, 0) := rfl
theorem f303_39 : fetch 303 39 = some (.l2i, 0, 0, 0) := rfl
theorem f303_40 : fetch 303 40 = some (.iastore, 0, 0, 0) := rfl
theorem f303_41 : fetch 303 41 = some (.aload_n 0, 0, 0, 0) := rfl
theorem f303_42 : fetch 303 42 = some (.getfield 225, 12, 95, 2) := rfl
theorem f303_45 : fetch 303 45 = some (.iload 4, 0, 0, 0) := rfl
theorem f303_47 : fetch 303 47 = some (.iaload, 0, 0, 0) := rfl
theorem f303_48 : fetch 303 48 = some (.aload_n 0, 0, 0, 0) := rfl
theorem f303_49 : fetch 303 49 = some (.getfield 247, 12, 2, 0) := rfl
theorem f303_52 : fetch 303 52 = some (.if_icmp .lt 7, 59, 0, 0) := rfl
theorem f303_55 : fetch 303 55 = some (.ldc2_w 595, 0, 0, -1) := rfl
theorem f303_58 : fetch 303 58 = some (.lreturn, 0, 0, 0) := rfl
theorem f303_59 : fetch 303 59 = some (.iconst 0, 0, 0, 0) := rfl
theorem f303_60 : fetch 303 60 = some (.istore 5, 0, 0, 0) := rfl
theorem f303_62 : fetch 303 62 = some (.iload 5, 0, 0, 0) := rfl
theorem f303_64 : fetch 303 64 = some (.iload 4, 0, 0, 0) := rfl
theorem f303_66 : fetch 303 66 = some (.if_icmp .ge 30, 96, 0, 0) := rfl
theorem f303_69 : fetch 303 69 = some (.aload_n 0, 0, 0, 0) := rfl
theorem f303_70 : fetch 303 70 = some (.getfield 225, 12, 95, 2) := rfl
theorem f303_73 : fetch 303 73 = some (.iload 5, 0, 0, 0) := rfl
theorem f303_75 : fetch 303 75 = some (.iaload, 0, 0, 0) := rfl
theorem f303_76 : fetch 303 76 = some (.aload_n 0, 0, 0, 0) := rfl
theorem f303_77 : fetch 303 77 = some (.getfield 225, 12, 95, 2) := rfl
theorem f303_80 : fetch 303 80 = some (.iload 4, 0, 0, 0) := rfl
theorem f303_82 : fetch 303 82 = some (.iaload, 0, 0, 0) := rfl
theorem f303_83 : fetch 303 83 = some (.if_icmp .ne 7, 90, 0, 0) := rfl
theorem f303_86 : fetch 303 86 = some (.ldc2_w 595, 0, 0, -1) := rfl
theorem f303_89 : fetch 303 89 = some (.lreturn, 0, 0, 0) := rfl
theorem f303_90 : fetch 303 90 = some (.iinc 5 1, 0, 0, 0) := rfl
theorem f303_93 : fetch 303 93 = some (.goto (-31), 62, 0, 0) := rfl
theorem f303_96 : fetch 303 96 = some (.iinc 4 1, 0, 0, 0) := rfl
theorem f303_99 : fetch 303 99 = some (.goto (-82), 17, 0, 0) := rfl
theorem f303_102 : fetch 303 102 = some (.iconst 0, 0, 0, 0) := rfl
theorem f303_103 : fetch 303 103 = some (.istore 4, 0, 0, 0) := rfl
theorem f303_105 : fetch 303 105 = some (.iload 4, 0, 0, 0) := rfl
theorem f303_107 : fetch 303 107 = some (.aload_n 0, 0, 0, 0) := rfl
theorem f303_108 : fetch 303 108 = some (.getfield 592, 12, 91, 0) := rfl
theorem f303_111 : fetch 303 111 = some (.if_icmp .ge 25, 136, 0, 0) := rfl
theorem f303_114 : fetch 303 114 = some (.aload_n 0, 0, 0, 0) := rfl
theorem f303_115 : fetch 303 115 = some (.getfield 219, 12, 93, 2) := rfl
theorem f303_118 : fetch 303 118 = some (.iload 4, 0, 0, 0) := rfl
theorem f303_120 : fetch 303 120 = some (.iaload, 0, 0, 0) := rfl
theorem f303_121 : fetch 303 121 = some (.iload_n 1, 0, 0, 0) := rfl
theorem f303_122 : fetch 303 122 = some (.ishr, 0, 0, 0) := rfl
theorem f303_123 : fetch 303 123 = some (.ifCond .eq 7, 130, 0, 0) := rfl
theorem f303_126 : fetch 303 126 = some (.ldc2_w 595, 0, 0, -1) := rfl
theorem f303_129 : fetch 303 129 = some (.lreturn, 0, 0, 0) := rfl
theorem f303_130 : fetch 303 130 = some (.iinc 4 1, 0, 0, 0) := rfl
theorem f303_133 : fetch 303 133 = some (.goto (-28), 105, 0, 0) := rfl
theorem f303_136 : fetch 303 136 = some (.iconst 0, 0, 0, 0) := rfl
theorem f303_137 : fetch 303 137 = some (.istore 4, 0, 0, 0) := rfl
theorem f303_139 : fetch 303 139 = some (.iload 4, 0, 0, 0) := rfl
theorem f303_141 : fetch 303 141 = some (.iload_n 1, 0, 0, 0) := rfl
theorem f303_142 : fetch 303 142 = some (.if_icmp .ge 73, 215, 0, 0) := rfl
theorem f303_145 : fetch 303 145 = some (.iload 4, 0, 0, 0) := rfl
theorem f303_147 : fetch 303 147 = some (.istore 5, 0, 0, 0) := rfl
theorem f303_149 : fetch 303 149 = some (.iload 5, 0, 0, 0) := rfl
theorem f303_151 : fetch 303 151 = some (.ifCond .le 49, 200, 0, 0) := rfl
theorem f303_154 : fetch 303 154 = some (.aload_n 0, 0, 0, 0) := rfl
theorem f303_155 : fetch 303 155 = some (.getfield 225, 12, 95, 2) := rfl
theorem f303_158 : fetch 303 158 = some (.aload_n 0, 0, 0, 0) := rfl
theorem f303_159 : fetch 303 159 = some (.getfield 228, 12, 96, 2) := rfl
theorem f303_162 : fetch 303 162 = some (.iload 5, 0, 0, 0) := rfl
theorem f303_164 : fetch 303 164 = some (.iconst 1, 0, 0, 0) := rfl
theorem f303_165 : fetch 303 165 = some (.isub, 0, 0, 0) := rfl
theorem f303_166 : fetch 303 166 = some (.iaload, 0, 0, 0) := rfl
theorem f303_167 : fetch 303 167 = some (.iaload, 0, 0, 0) := rfl
theorem f303_168 : fetch 303 168 = some (.aload_n 0, 0, 0, 0) := rfl
theorem f303_169 : fetch 303 169 = some (.getfield 225, 12, 95, 2) := rfl
theorem f303_172 : fetch 303 172 = some (.iload 4, 0, 0, 0) := rfl
theorem f303_174 : fetch 303 174 = some (.iaload, 0, 0, 0) := rfl
theorem f303_175 : fetch 303 175 = some (.if_icmp .le 25, 200, 0, 0) := rfl
theorem f303_178 : fetch 303 178 = some (.aload_n 0, 0, 0, 0) := rfl
theorem f303_179 : fetch 303 179 = some (.getfield 228, 12, 96, 2) := rfl
theorem f303_182 : fetch 303 182 = some (.iload 5, 0, 0, 0) := rfl
theorem f303_184 : fetch 303 184 = some (.aload_n 0, 0, 0, 0) := rfl
theorem f303_185 : fetch 303 185 = some (.getfield 228, 12, 96, 2) := rfl
theorem f303_188 : fetch 303 188 = some (.iload 5, 0, 0, 0) := rfl
theorem f303_190 : fetch 303 190 = some (.iconst 1, 0, 0, 0) := rfl
theorem f303_191 : fetch 303 191 = some (.isub, 0, 0, 0) := rfl
theorem f303_192 : fetch 303 192 = some (.iaload, 0, 0, 0) := rfl
theorem f303_193 : fetch 303 193 = some (.iastore, 0, 0, 0) := rfl
theorem f303_194 : fetch 303 194 = some (.iinc 5 (-1), 0, 0, 0) := rfl
theorem f303_197 : fetch 303 197 = some (.goto (-48), 149, 0, 0) := rfl
theorem f303_200 : fetch 303 200 = some (.aload_n 0, 0, 0, 0) := rfl
theorem f303_201 : fetch 303 201 = some (.getfield 228, 12, 96, 2) := rfl
theorem f303_204 : fetch 303 204 = some (.iload 5, 0, 0, 0) := rfl
theorem f303_206 : fetch 303 206 = some (.iload 4, 0, 0, 0) := rfl
theorem f303_208 : fetch 303 208 = some (.iastore, 0, 0, 0) := rfl
theorem f303_209 : fetch 303 209 = some (.iinc 4 1, 0, 0, 0) := rfl
theorem f303_212 : fetch 303 212 = some (.goto (-73), 139, 0, 0) := rfl
theorem f303_215 : fetch 303 215 = some (.iconst 1, 0, 0, 0) := rfl
theorem f303_216 : fetch 303 216 = some (.iload_n 1, 0, 0, 0) := rfl
theorem f303_217 : fetch 303 217 = some (.ishl, 0, 0, 0) := rfl
theorem f303_218 : fetch 303 218 = some (.iconst 1, 0, 0, 0) := rfl
theorem f303_219 : fetch 303 219 = some (.isub, 0, 0, 0) := rfl
theorem f303_220 : fetch 303 220 = some (.istore 4, 0, 0, 0) := rfl
theorem f303_222 : fetch 303 222 = some (.aload_n 0, 0, 0, 0) := rfl
theorem f303_223 : fetch 303 223 = some (.getfield 234, 12, 98, 2) := rfl
theorem f303_226 : fetch 303 226 = some (.iload 4, 0, 0, 0) := rfl
theorem f303_228 : fetch 303 228 = some (.lconst 0, 0, 0, 0) := rfl
theorem f303_229 : fetch 303 229 = some (.lastore, 0, 0, 0) := rfl
theorem f303_230 : fetch 303 230 = some (.iload 4, 0, 0, 0) := rfl
theorem f303_232 : fetch 303 232 = some (.iconst 1, 0, 0, 0) := rfl
theorem f303_233 : fetch 303 233 = some (.isub, 0, 0, 0) := rfl
theorem f303_234 : fetch 303 234 = some (.istore 5, 0, 0, 0) := rfl
theorem f303_236 : fetch 303 236 = some (.iload 5, 0, 0, 0) := rfl
theorem f303_238 : fetch 303 238 = some (.ifCond .lt 104, 342, 0, 0) := rfl
theorem f303_241 : fetch 303 241 = some (.aload_n 0, 0, 0, 0) := rfl
theorem f303_242 : fetch 303 242 = some (.getfield 234, 12, 98, 2) := rfl
theorem f303_245 : fetch 303 245 = some (.iload 5, 0, 0, 0) := rfl
theorem f303_247 : fetch 303 247 = some (.ldc2_w 599, 0, 0, 9223372036854775807) := rfl
theorem f303_250 : fetch 303 250 = some (.lastore, 0, 0, 0) := rfl
theorem f303_251 : fetch 303 251 = some (.iconst 0, 0, 0, 0) := rfl
theorem f303_252 : fetch 303 252 = some (.istore 6, 0, 0, 0) := rfl
theorem f303_254 : fetch 303 254 = some (.iload 6, 0, 0, 0) := rfl
theorem f303_256 : fetch 303 256 = some (.iload_n 1, 0, 0, 0) := rfl
theorem f303_257 : fetch 303 257 = some (.if_icmp .ge 79, 336, 0, 0) := rfl
theorem f303_260 : fetch 303 260 = some (.iload 5, 0, 0, 0) := rfl
theorem f303_262 : fetch 303 262 = some (.iload 6, 0, 0, 0) := rfl
theorem f303_264 : fetch 303 264 = some (.ishr, 0, 0, 0) := rfl
theorem f303_265 : fetch 303 265 = some (.iconst 1, 0, 0, 0) := rfl
theorem f303_266 : fetch 303 266 = some (.iand, 0, 0, 0) := rfl
theorem f303_267 : fetch 303 267 = some (.ifCond .ne 63, 330, 0, 0) := rfl
theorem f303_270 : fetch 303 270 = some (.aload_n 0, 0, 0, 0) := rfl
theorem f303_271 : fetch 303 271 = some (.iload 5, 0, 0, 0) := rfl
theorem f303_273 : fetch 303 273 = some (.iconst 1, 0, 0, 0) := rfl
theorem f303_274 : fetch 303 274 = some (.iload 6, 0, 0, 0) := rfl
theorem f303_276 : fetch 303 276 = some (.ishl, 0, 0, 0) := rfl
theorem f303_277 : fetch 303 277 = some (.ior, 0, 0, 0) := rfl
theorem f303_278 : fetch 303 278 = some (.iload 6, 0, 0, 0) := rfl
theorem f303_280 : fetch 303 280 = some (.invokevirtual 601, 302, 2, 0) := rfl
theorem f303_283 : fetch 303 283 = some (.aload_n 0, 0, 0, 0) := rfl
theorem f303_284 : fetch 303 284 = some (.getfield 234, 12, 98, 2) := rfl
theorem f303_287 : fetch 303 287 = some (.iload 5, 0, 0, 0) := rfl
theorem f303_289 : fetch 303 289 = some (.iconst 1, 0, 0, 0) := rfl
theorem f303_290 : fetch 303 290 = some (.iload 6, 0, 0, 0) := rfl
theorem f303_292 : fetch 303 292 = some (.ishl, 0, 0, 0) := rfl
theorem f303_293 : fetch 303 293 = some (.ior, 0, 0, 0) := rfl
theorem f303_294 : fetch 303 294 = some (.laload, 0, 0, 0) := rfl
theorem f303_295 : fetch 303 295 = some (.ladd, 0, 0, 0) := rfl
theorem f303_296 : fetch 303 296 = some (.lstore 7, 0, 0, 0) := rfl
theorem f303_298 : fetch 303 298 = some (.aload_n 0, 0, 0, 0) := rfl
theorem f303_299 : fetch 303 299 = some (.getfield 234, 12, 98, 2) := rfl
theorem f303_302 : fetch 303 302 = some (.iload 5, 0, 0, 0) := rfl
theorem f303_304 : fetch 303 304 = some (.lload 7, 0, 0, 0) := rfl
theorem f303_306 : fetch 303 306 = some (.aload_n 0, 0, 0, 0) := rfl
theorem f303_307 : fetch 303 307 = some (.getfield 234, 12, 98, 2) := rfl
theorem f303_310 : fetch 303 310 = some (.iload 5, 0, 0, 0) := rfl
theorem f303_312 : fetch 303 312 = some (.laload, 0, 0, 0) := rfl
theorem f303_313 : fetch 303 313 = some (.lcmp, 0, 0, 0) := rfl
theorem f303_314 : fetch 303 314 = some (.ifCond .ge 8, 322, 0, 0) := rfl
theorem f303_317 : fetch 303 317 = some (.lload 7, 0, 0, 0) := rfl
theorem f303_319 : fetch 303 319 = some (.goto 10, 329, 0, 0) := rfl
theorem f303_322 : fetch 303 322 = some (.aload_n 0, 0, 0, 0) := rfl
theorem f303_323 : fetch 303 323 = some (.getfield 234, 12, 98, 2) := rfl
theorem f303_326 : fetch 303 326 = some (.iload 5, 0, 0, 0) := rfl
theorem f303_328 : fetch 303 328 = some (.laload, 0, 0, 0) := rfl
theorem f303_329 : fetch 303 329 = some (.lastore, 0, 0, 0) := rfl
theorem f303_330 : fetch 303 330 = some (.iinc 6 1, 0, 0, 0) := rfl
theorem f303_333 : fetch 303 333 = some (.goto (-79), 254, 0, 0) := rfl
theorem f303_336 : fetch 303 336 = some (.iinc 5 (-1), 0, 0, 0) := rfl
theorem f303_339 : fetch 303 339 = some (.goto (-103), 236, 0, 0) := rfl
theorem f303_342 : fetch 303 342 = some (.iconst 0, 0, 0, 0) := rfl
theorem f303_343 : fetch 303 343 = some (.istore 5, 0, 0, 0) := rfl
theorem f303_345 : fetch 303 345 = some (.iconst 0, 0, 0, 0) := rfl
theorem f303_346 : fetch 303 346 = some (.istore 6, 0, 0, 0) := rfl
theorem f303_348 : fetch 303 348 = some (.iload 6, 0, 0, 0) := rfl
theorem f303_350 : fetch 303 350 = some (.iload_n 1, 0, 0, 0) := rfl
theorem f303_351 : fetch 303 351 = some (.if_icmp .ge 119, 470, 0, 0) := rfl
theorem f303_354 : fetch 303 354 = some (.iconst 0, 0, 0, 0) := rfl
theorem f303_355 : fetch 303 355 = some (.istore 7, 0, 0, 0) := rfl
theorem f303_357 : fetch 303 357 = some (.iload 5, 0, 0, 0) := rfl
theorem f303_359 : fetch 303 359 = some (.aload_n 0, 0, 0, 0) := rfl
theorem f303_360 : fetch 303 360 = some (.getfield 228, 12, 96, 2) := rfl
theorem f303_363 : fetch 303 363 = some (.iload 7, 0, 0, 0) := rfl
theorem f303_365 : fetch 303 365 = some (.iaload, 0, 0, 0) := rfl
theorem f303_366 : fetch 303 366 = some (.ishr, 0, 0, 0) := rfl
theorem f303_367 : fetch 303 367 = some (.iconst 1, 0, 0, 0) := rfl
theorem f303_368 : fetch 303 368 = some (.iand, 0, 0, 0) := rfl
theorem f303_369 : fetch 303 369 = some (.iconst 1, 0, 0, 0) := rfl
theorem f303_370 : fetch 303 370 = some (.if_icmp .eq 55, 425, 0, 0) := rfl
theorem f303_373 : fetch 303 373 = some (.aload_n 0, 0, 0, 0) := rfl
theorem f303_374 : fetch 303 374 = some (.iload 5, 0, 0, 0) := rfl
theorem f303_376 : fetch 303 376 = some (.iconst 1, 0, 0, 0) := rfl
theorem f303_377 : fetch 303 377 = some (.aload_n 0, 0, 0, 0) := rfl
theorem f303_378 : fetch 303 378 = some (.getfield 228, 12, 96, 2) := rfl
theorem f303_381 : fetch 303 381 = some (.iload 7, 0, 0, 0) := rfl
theorem f303_383 : fetch 303 383 = some (.iaload, 0, 0, 0) := rfl
theorem f303_384 : fetch 303 384 = some (.ishl, 0, 0, 0) := rfl
theorem f303_385 : fetch 303 385 = some (.ior, 0, 0, 0) := rfl
theorem f303_386 : fetch 303 386 = some (.aload_n 0, 0, 0, 0) := rfl
theorem f303_387 : fetch 303 387 = some (.getfield 228, 12, 96, 2) := rfl
theorem f303_390 : fetch 303 390 = some (.iload 7, 0, 0, 0) := rfl
theorem f303_392 : fetch 303 392 = some (.iaload, 0, 0, 0) := rfl
theorem f303_393 : fetch 303 393 = some (.invokevirtual 601, 302, 2, 0) := rfl
theorem f303_396 : fetch 303 396 = some (.aload_n 0, 0, 0, 0) := rfl
theorem f303_397 : fetch 303 397 = some (.getfield 234, 12, 98, 2) := rfl
theorem f303_400 : fetch 303 400 = some (.iload 5, 0, 0, 0) := rfl
theorem f303_402 : fetch 303 402 = some (.iconst 1, 0, 0, 0) := rfl
theorem f303_403 : fetch 303 403 = some (.aload_n 0, 0, 0, 0) := rfl
theorem f303_404 : fetch 303 404 = some (.getfield 228, 12, 96, 2) := rfl
theorem f303_407 : fetch 303 407 = some (.iload 7, 0, 0, 0) := rfl
theorem f303_409 : fetch 303 409 = some (.iaload, 0, 0, 0) := rfl
theorem f303_410 : fetch 303 410 = some (.ishl, 0, 0, 0) := rfl
theorem f303_411 : fetch 303 411 = some (.ior, 0, 0, 0) := rfl
theorem f303_412 : fetch 303 412 = some (.laload, 0, 0, 0) := rfl
theorem f303_413 : fetch 303 413 = some (.ladd, 0, 0, 0) := rfl
theorem f303_414 : fetch 303 414 = some (.aload_n 0, 0, 0, 0) := rfl
theorem f303_415 : fetch 303 415 = some (.getfield 234, 12, 98, 2) := rfl
theorem f303_418 : fetch 303 418 = some (.iload 5, 0, 0, 0) := rfl
theorem f303_420 : fetch 303 420 = some (.laload, 0, 0, 0) := rfl
theorem f303_421 : fetch 303 421 = some (.lcmp, 0, 0, 0) := rfl
theorem f303_422 : fetch 303 422 = some (.ifCond .eq 9, 431, 0, 0) := rfl
theorem f303_425 : fetch 303 425 = some (.iinc 7 1, 0, 0, 0) := rfl
theorem f303_428 : fetch 303 428 = some (.goto (-71), 357, 0, 0) := rfl
theorem f303_431 : fetch 303 431 = some (.aload_n 0, 0, 0, 0) := rfl
theorem f303_432 : fetch 303 432 = some (.getfield 231, 12, 97, 2) := rfl
theorem f303_435 : fetch 303 435 = some (.iload 6, 0, 0, 0) := rfl
theorem f303_437 : fetch 303 437 = some (.aload_n 0, 0, 0, 0) := rfl
theorem f303_438 : fetch 303 438 = some (.getfield 225, 12, 95, 2) := rfl
theorem f303_441 : fetch 303 441 = some (.aload_n 0, 0, 0, 0) := rfl
theorem f303_442 : fetch 303 442 = some (.getfield 228, 12, 96, 2) := rfl
theorem f303_445 : fetch 303 445 = some (.iload 7, 0, 0, 0) := rfl
theorem f303_447 : fetch 303 447 = some (.iaload, 0, 0, 0) := rfl
theorem f303_448 : fetch 303 448 = some (.iaload, 0, 0, 0) := rfl
theorem f303_449 : fetch 303 449 = some (.iastore, 0, 0, 0) := rfl
theorem f303_450 : fetch 303 450 = some (.iload 5, 0, 0, 0) := rfl
theorem f303_452 : fetch 303 452 = some (.iconst 1, 0, 0, 0) := rfl
theorem f303_453 : fetch 303 453 = some (.aload_n 0, 0, 0, 0) := rfl
theorem f303_454 : fetch 303 454 = some (.getfield 228, 12, 96, 2) := rfl
theorem f303_457 : fetch 303 457 = some (.iload 7, 0, 0, 0) := rfl
theorem f303_459 : fetch 303 459 = some (.iaload, 0, 0, 0) := rfl
theorem f303_460 : fetch 303 460 = some (.ishl, 0, 0, 0) := rfl
theorem f303_461 : fetch 303 461 = some (.ior, 0, 0, 0) := rfl
theorem f303_462 : fetch 303 462 = some (.istore 5, 0, 0, 0) := rfl
theorem f303_464 : fetch 303 464 = some (.iinc 6 1, 0, 0, 0) := rfl
theorem f303_467 : fetch 303 467 = some (.goto (-119), 348, 0, 0) := rfl
theorem f303_470 : fetch 303 470 = some (.aload_n 0, 0, 0, 0) := rfl
theorem f303_471 : fetch 303 471 = some (.iload_n 1, 0, 0, 0) := rfl
theorem f303_472 : fetch 303 472 = some (.putfield 605, 12, 92, 0) := rfl
theorem f303_475 : fetch 303 475 = some (.aload_n 0, 0, 0, 0) := rfl
theorem f303_476 : fetch 303 476 = some (.iconst 0, 0, 0, 0) := rfl
theorem f303_477 : fetch 303 477 = some (.putfield 592, 12, 91, 0) := rfl
theorem f303_480 : fetch 303 480 = some (.aload_n 0, 0, 0, 0) := rfl
theorem f303_481 : fetch 303 481 = some (.getfield 234, 12, 98, 2) := rfl
theorem f303_484 : fetch 303 484 = some (.iconst 0, 0, 0, 0) := rfl
theorem f303_485 : fetch 303 485 = some (.laload, 0, 0, 0) := rfl
theorem f303_486 : fetch 303 486 = some (.lreturn, 0, 0, 0) := rfl
set_option maxRecDepth 100000 in
set_option maxHeartbeats 4000000 in
theorem p303_L62_ok (d : Nat) (F : Nat) (a0 : Int32) (a1 : Int64) (K17 : HS → Int32 → Option (Int64 × HS)) (hK17 : ∀ (h : HS) (w : WF h) (u4 : Int32) (r : Int64 × HS), K17 h u4 = some r → ex (d + 1) 303 (17, [some (.ref (86)), some (.int (a0)), some (.long (a1)), none, some (.int (u4)), none, none, none, none], [], h) = some (some (.long (r.1)), r.2)) : ∀ (n : Nat) (h : HS) (w : WF h) (v4 : Int32) (v5 : Int32) (r : Int64 × HS), p303_L62 F a0 a1 K17 n h v4 v5 = some r → ex (d + 1) 303 (62, [some (.ref (86)), some (.int (a0)), some (.long (a1)), none, some (.int (v4)), some (.int (v5)), none, none, none], [], h) = some (some (.long (r.1)), r.2) := by
  intro n
  induction n with
  | zero => intro h w v4 v5 r hp; cases hp
  | succ n ih =>
    intro h w v4 v5 r hp
    unfold p303_L62 at hp
    refine e_iload f303_62 rfl ?_
    refine e_iload f303_64 rfl ?_
    by_cases hc11 : (v5) < ((v4) : Int32)
    · rw [if_pos hc11] at hp
      refine e_icmp_ge_f f303_66 hc11 ?_
      refine e_aload_n f303_69 rfl ?_
      refine e_getR f303_70 (WF.t w 86 (by decide)) rfl (WF.r (q := 156) w 86 95 (by decide)) ?_
      refine e_iload f303_73 rfl ?_
      by_cases hg12 : (v5) < (0 : Int32) ∨ 9 ≤ (v5).toNatClampNeg
      · rw [if_pos hg12] at hp; cases hp
      rw [if_neg hg12] at hp
      refine e_iaload f303_75 (Or.inl (WF.t w 156 (by decide))) (WF.n w 156 (by decide)) hg12 ?_
      refine e_aload_n f303_76 rfl ?_
      refine e_getR f303_77 (WF.t w 86 (by decide)) rfl (WF.r (q := 156) w 86 95 (by decide)) ?_
      refine e_iload f303_80 rfl ?_
      by_cases hg13 : (v4) < (0 : Int32) ∨ 9 ≤ (v4).toNatClampNeg
      · rw [if_pos hg13] at hp; cases hp
      rw [if_neg hg13] at hp
      refine e_iaload f303_82 (Or.inl (WF.t w 156 (by decide))) (WF.n w 156 (by decide)) hg13 ?_
      by_cases hc14 : (hI (h) (156) (v5).toNatClampNeg) = ((hI (h) (156) (v4).toNatClampNeg) : Int32)
      · rw [if_pos hc14] at hp
        refine e_icmp_ne_f f303_83 hc14 ?_
        refine e_ldc2 (v := -1) f303_86 (by decide) ?_
        have hp := Option.some.inj hp
        subst hp
        exact e_lreturn f303_89
      · rw [if_neg hc14] at hp
        refine e_icmp_ne_t f303_83 hc14 ?_
        refine e_iinc (ls2 := [some (.ref (86)), some (.int (a0)), some (.long (a1)), none, some (.int (v4)), some (.int ((v5) + 1)), none, none, none]) f303_90 (by decide) rfl rfl ?_
        refine e_goto f303_93 ?_
        refine ex_weak (ls := [some (.ref (86)), some (.int (a0)), some (.long (a1)), none, some (.int (v4)), some (.int ((v5) + 1)), none, none, none]) (le2_ok ⟨Or.inr rfl, Or.inr rfl, Or.inr rfl, Or.inl rfl, Or.inr rfl, Or.inr rfl, Or.inl rfl, Or.inl rfl, Or.inl rfl, trivial⟩) ?_
        exact ih (h) (w) (v4) ((v5) + 1) _ hp
    · rw [if_neg hc11] at hp
      refine e_icmp_ge_t f303_66 hc11 ?_
      refine e_iinc (ls2 := [some (.ref (86)), some (.int (a0)), some (.long (a1)), none, some (.int ((v4) + 1)), some (.int (v5)), none, none, none]) f303_96 (by decide) rfl rfl ?_
      refine e_goto f303_99 ?_
      refine ex_weak (ls := [some (.ref (86)), some (.int (a0)), some (.long (a1)), none, some (.int ((v4) + 1)), none, none, none, none]) (le2_ok ⟨Or.inr rfl, Or.inr rfl, Or.inr rfl, Or.inl rfl, Or.inr rfl, Or.inl rfl, Or.inl rfl, Or.inl rfl, Or.inl rfl, trivial⟩) ?_
      exact hK17 (h) (w) ((v4) + 1) _ hp
set_option maxRecDepth 100000 in
set_option maxHeartbeats 4000000 in
theorem p303_L62_w (F : Nat) (a0 : Int32) (a1 : Int64) (K17 : HS → Int32 → Option (Int64 × HS)) (hK17 : ∀ (h : HS) (w : WF h) (u4 : Int32) (r : Int64 × HS), K17 h u4 = some r → WF r.2) : ∀ (n : Nat) (h : HS) (w : WF h) (v4 : Int32) (v5 : Int32) (r : Int64 × HS), p303_L62 F a0 a1 K17 n h v4 v5 = some r → WF r.2 := by
  intro n
  induction n with
  | zero => intro h w v4 v5 r hp; cases hp
  | succ n ih =>
    intro h w v4 v5 r hp
    unfold p303_L62 at hp
    by_cases hc11 : (v5) < ((v4) : Int32)
    · rw [if_pos hc11] at hp
      by_cases hg12 : (v5) < (0 : Int32) ∨ 9 ≤ (v5).toNatClampNeg
      · rw [if_pos hg12] at hp; cases hp
      rw [if_neg hg12] at hp
      by_cases hg13 : (v4) < (0 : Int32) ∨ 9 ≤ (v4).toNatClampNeg
      · rw [if_pos hg13] at hp; cases hp
      rw [if_neg hg13] at hp
      by_cases hc14 : (hI (h) (156) (v5).toNatClampNeg) = ((hI (h) (156) (v4).toNatClampNeg) : Int32)
      · rw [if_pos hc14] at hp
        have hp := Option.some.inj hp
        subst hp
        exact (w)
      · rw [if_neg hc14] at hp
        exact ih (h) (w) (v4) ((v5) + 1) _ hp
    · rw [if_neg hc11] at hp
      exact hK17 (h) (w) ((v4) + 1) _ hp
set_option maxRecDepth 100000 in
set_option maxHeartbeats 4000000 in
theorem p303_j200_ok (d : Nat) (F : Nat) (a0 : Int32) (a1 : Int64) (K139 : HS → Int32 → Option (Int64 × HS)) (hK139 : ∀ (h : HS) (w : WF h) (u4 : Int32) (r : Int64 × HS), K139 h u4 = some r → ex (d + 1) 303 (139, [some (.ref (86)), some (.int (a0)), none, none, some (.int (u4)), none, none, none, none], [], h) = some (some (.long (r.1)), r.2)) (h : HS) (w : WF h) (v4 : Int32) (v5 : Int32) (r : Int64 × HS) (hp : p303_j200 F a0 a1 K139 h v4 v5 = some r) : ex (d + 1) 303 (200, [some (.ref (86)), some (.int (a0)), none, none, some (.int (v4)), some (.int (v5)), none, none, none], [], h) = some (some (.long (r.1)), r.2) := by
  unfold p303_j200 at hp
  refine e_aload_n f303_200 rfl ?_
  refine e_getR f303_201 (WF.t w 86 (by decide)) rfl (WF.r (q := 157) w 86 96 (by decide)) ?_
  refine e_iload f303_204 rfl ?_
  refine e_iload f303_206 rfl ?_
  by_cases hg29 : (v5) < (0 : Int32) ∨ 9 ≤ (v5).toNatClampNeg
  · rw [if_pos hg29] at hp; cases hp
  rw [if_neg hg29] at hp
  refine e_iastore f303_208 (WF.t w 157 (by decide)) (WF.n w 157 (by decide)) hg29 ?_
  refine e_iinc (ls2 := [some (.ref (86)), some (.int (a0)), none, none, some (.int ((v4) + 1)), some (.int (v5)), none, none, none]) f303_209 (by decide) rfl rfl ?_
  refine e_goto f303_212 ?_
  refine ex_weak (ls := [some (.ref (86)), some (.int (a0)), none, none, some (.int ((v4) + 1)), none, none, none, none]) (le2_ok ⟨Or.inr rfl, Or.inr rfl, Or.inl rfl, Or.inl rfl, Or.inr rfl, Or.inl rfl, Or.inl rfl, Or.inl rfl, Or.inl rfl, trivial⟩) ?_
  exact hK139 (hsI (h) (157) (v5).toNatClampNeg (v4)) (w) ((v4) + 1) _ hp
set_option maxRecDepth 100000 in
set_option maxHeartbeats 4000000 in
theorem p303_j200_w (F : Nat) (a0 : Int32) (a1 : Int64) (K139 : HS → Int32 → Option (Int64 × HS)) (hK139 : ∀ (h : HS) (w : WF h) (u4 : Int32) (r : Int64 × HS), K139 h u4 = some r → WF r.2) (h : HS) (w : WF h) (v4 : Int32) (v5 : Int32) (r : Int64 × HS) (hp : p303_j200 F a0 a1 K139 h v4 v5 = some r) : WF r.2 := by
  unfold p303_j200 at hp
  by_cases hg29 : (v5) < (0 : Int32) ∨ 9 ≤ (v5).toNatClampNeg
  · rw [if_pos hg29] at hp; cases hp
  rw [if_neg hg29] at hp
  exact hK139 (hsI (h) (157) (v5).toNatClampNeg (v4)) (w) ((v4) + 1) _ hp
set_option maxRecDepth 100000 in
set_option maxHeartbeats 4000000 in
theorem p303_j330_ok (d : Nat) (F : Nat) (a0 : Int32) (a1 : Int64) (K236 : HS → Int32 → Option (Int64 × HS)) (K254 : HS → Int32 → Int32 → Option (Int64 × HS)) (hK236 : ∀ (h : HS) (w : WF h) (u5 : Int32) (r : Int64 × HS), K236 h u5 = some r → ex (d + 1) 303 (236, [some (.ref (86)), some (.int (a0)), none, none, none, some (.int (u5)), none, none, none], [], h) = some (some (.long (r.1)), r.2)) (hK254 : ∀ (h : HS) (w : WF h) (u5 : Int32) (u6 : Int32) (r : Int64 × HS), K254 h u5 u6 = some r → ex (d + 1) 303 (254, [some (.ref (86)), some (.int (a0)), none, none, none, some (.int (u5)), some (.int (u6)), none, none], [], h) = some (some (.long (r.1)), r.2)) (h : HS) (w : WF h) (v5 : Int32) (v6 : Int32) (r : Int64 × HS) (hp : p303_j330 F a0 a1 K236 K254 h v5 v6 = some r) : ex (d + 1) 303 (330, [some (.ref (86)), some (.int (a0)), none, none, none, some (.int (v5)), some (.int (v6)), none, none], [], h) = some (some (.long (r.1)), r.2) := by
  unfold p303_j330 at hp
  refine e_iinc (ls2 := [some (.ref (86)), some (.int (a0)), none, none, none, some (.int (v5)), some (.int ((v6) + 1)), none, none]) f303_330 (by decide) rfl rfl ?_
  refine e_goto f303_333 ?_
  refine ex_weak (ls := [some (.ref (86)), some (.int (a0)), none, none, none, some (.int (v5)), some (.int ((v6) + 1)), none, none]) (le2_ok ⟨Or.inr rfl, Or.inr rfl, Or.inl rfl, Or.inl rfl, Or.inl rfl, Or.inr rfl, Or.inr rfl, Or.inl rfl, Or.inl rfl, trivial⟩) ?_
  exact hK254 (h) (w) (v5) ((v6) + 1) _ hp
set_option maxRecDepth 100000 in
set_option maxHeartbeats 4000000 in
theorem p303_j330_w (F : Nat) (a0 : Int32) (a1 : Int64) (K236 : HS → Int32 → Option (Int64 × HS)) (K254 : HS → Int32 → Int32 → Option (Int64 × HS)) (hK236 : ∀ (h : HS) (w : WF h) (u5 : Int32) (r : Int64 × HS), K236 h u5 = some r → WF r.2) (hK254 : ∀ (h : HS) (w : WF h) (u5 : Int32) (u6 : Int32) (r : Int64 × HS), K254 h u5 u6 = some r → WF r.2) (h : HS) (w : WF h) (v5 : Int32) (v6 : Int32) (r : Int64 × HS) (hp : p303_j330 F a0 a1 K236 K254 h v5 v6 = some r) : WF r.2 := by
  unfold p303_j330 at hp
  exact hK254 (h) (w) (v5) ((v6) + 1) _ hp
set_option maxRecDepth 100000 in
set_option maxHeartbeats 4000000 in
theorem p303_j425_ok (d : Nat) (F : Nat) (a0 : Int32) (a1 : Int64) (K348 : HS → Int32 → Int32 → Option (Int64 × HS)) (K357 : HS → Int32 → Int32 → Int32 → Option (Int64 × HS)) (hK348 : ∀ (h : HS) (w : WF h) (u5 : Int32) (u6 : Int32) (r : Int64 × HS), K348 h u5 u6 = some r → ex (d + 1) 303 (348, [some (.ref (86)), some (.int (a0)), none, none, none, some (.int (u5)), some (.int (u6)), none, none], [], h) = some (some (.long (r.1)), r.2)) (hK357 : ∀ (h : HS) (w : WF h) (u5 : Int32) (u6 : Int32) (u7 : Int32) (r : Int64 × HS), K357 h u5 u6 u7 = some r → ex (d + 1) 303 (357, [some (.ref (86)), some (.int (a0)), none, none, none, some (.int (u5)), some (.int (u6)), some (.int (u7)), none], [], h) = some (some (.long (r.1)), r.2)) (h : HS) (w : WF h) (v5 : Int32) (v6 : Int32) (v7 : Int32) (r : Int64 × HS) (hp : p303_j425 F a0 a1 K348 K357 h v5 v6 v7 = some r) : ex (d + 1) 303 (425, [some (.ref (86)), some (.int (a0)), none, none, none, some (.int (v5)), some (.int (v6)), some (.int (v7)), none], [], h) = some (some (.long (r.1)), r.2) := by
  unfold p303_j425 at hp
  refine e_iinc (ls2 := [some (.ref (86)), some (.int (a0)), none, none, none, some (.int (v5)), some (.int (v6)), some (.int ((v7) + 1)), none]) f303_425 (by decide) rfl rfl ?_
  refine e_goto f303_428 ?_
  refine ex_weak (ls := [some (.ref (86)), some (.int (a0)), none, none, none, some (.int (v5)), some (.int (v6)), some (.int ((v7) + 1)), none]) (le2_ok ⟨Or.inr rfl, Or.inr rfl, Or.inl rfl, Or.inl rfl, Or.inl rfl, Or.inr rfl, Or.inr rfl, Or.inr rfl, Or.inl rfl, trivial⟩) ?_
  exact hK357 (h) (w) (v5) (v6) ((v7) + 1) _ hp
set_option maxRecDepth 100000 in
set_option maxHeartbeats 4000000 in
theorem p303_j425_w (F : Nat) (a0 : Int32) (a1 : Int64) (K348 : HS → Int32 → Int32 → Option (Int64 × HS)) (K357 : HS → Int32 → Int32 → Int32 → Option (Int64 × HS)) (hK348 : ∀ (h : HS) (w : WF h) (u5 : Int32) (u6 : Int32) (r : Int64 × HS), K348 h u5 u6 = some r → WF r.2) (hK357 : ∀ (h : HS) (w : WF h) (u5 : Int32) (u6 : Int32) (u7 : Int32) (r : Int64 × HS), K357 h u5 u6 u7 = some r → WF r.2) (h : HS) (w : WF h) (v5 : Int32) (v6 : Int32) (v7 : Int32) (r : Int64 × HS) (hp : p303_j425 F a0 a1 K348 K357 h v5 v6 v7 = some r) : WF r.2 := by
  unfold p303_j425 at hp
  exact hK357 (h) (w) (v5) (v6) ((v7) + 1) _ hp
set_option maxRecDepth 100000 in
set_option maxHeartbeats 4000000 in
theorem p303_L149_ok (d : Nat) (F : Nat) (a0 : Int32) (a1 : Int64) (K139 : HS → Int32 → Option (Int64 × HS)) (hK139 : ∀ (h : HS) (w : WF h) (u4 : Int32) (r : Int64 × HS), K139 h u4 = some r → ex (d + 1) 303 (139, [some (.ref (86)), some (.int (a0)), none, none, some (.int (u4)), none, none, none, none], [], h) = some (some (.long (r.1)), r.2)) : ∀ (n : Nat) (h : HS) (w : WF h) (v4 : Int32) (v5 : Int32) (r : Int64 × HS), p303_L149 F a0 a1 K139 n h v4 v5 = some r → ex (d + 1) 303 (149, [some (.ref (86)), some (.int (a0)), none, none, some (.int (v4)), some (.int (v5)), none, none, none], [], h) = some (some (.long (r.1)), r.2) := by
  intro n
  induction n with
  | zero => intro h w v4 v5 r hp; cases hp
  | succ n ih =>
    intro h w v4 v5 r hp
    unfold p303_L149 at hp
    refine e_iload f303_149 rfl ?_
    by_cases hc20 : (0 : Int32) < (v5)
    · rw [if_pos hc20] at hp
      refine e_if_le_f f303_151 hc20 ?_
      refine e_aload_n f303_154 rfl ?_
      refine e_getR f303_155 (WF.t w 86 (by decide)) rfl (WF.r (q := 156) w 86 95 (by decide)) ?_
      refine e_aload_n f303_158 rfl ?_
      refine e_getR f303_159 (WF.t w 86 (by decide)) rfl (WF.r (q := 157) w 86 96 (by decide)) ?_
      refine e_iload f303_162 rfl ?_
      refine e_iconst (v := 1) f303_164 (by decide) ?_
      refine e_isub f303_165 ?_
      by_cases hg21 : ((v5) - (1)) < (0 : Int32) ∨ 9 ≤ ((v5) - (1)).toNatClampNeg
      · rw [if_pos hg21] at hp; cases hp
      rw [if_neg hg21] at hp
      refine e_iaload f303_166 (Or.inl (WF.t w 157 (by decide))) (WF.n w 157 (by decide)) hg21 ?_
      by_cases hg22 : (hI (h) (157) ((v5) - (1)).toNatClampNeg) < (0 : Int32) ∨ 9 ≤ (hI (h) (157) ((v5) - (1)).toNatClampNeg).toNatClampNeg
      · rw [if_pos hg22] at hp; cases hp
      rw [if_neg hg22] at hp
      refine e_iaload f303_167 (Or.inl (WF.t w 156 (by decide))) (WF.n w 156 (by decide)) hg22 ?_
      refine e_aload_n f303_168 rfl ?_
      refine e_getR f303_169 (WF.t w 86 (by decide)) rfl (WF.r (q := 156) w 86 95 (by decide)) ?_
      refine e_iload f303_172 rfl ?_
      by_cases hg23 : (v4) < (0 : Int32) ∨ 9 ≤ (v4).toNatClampNeg
      · rw [if_pos hg23] at hp; cases hp
      rw [if_neg hg23] at hp
      refine e_iaload f303_174 (Or.inl (WF.t w 156 (by decide))) (WF.n w 156 (by decide)) hg23 ?_
      by_cases hc24 : (hI (h) (156) (v4).toNatClampNeg) < ((hI (h) (156) (hI (h) (157) ((v5) - (1)).toNatClampNeg).toNatClampNeg) : Int32)
      · rw [if_pos hc24] at hp
        refine e_icmp_le_f f303_175 hc24 ?_
        refine e_aload_n f303_178 rfl ?_
        refine e_getR f303_179 (WF.t w 86 (by decide)) rfl (WF.r (q := 157) w 86 96 (by decide)) ?_
        refine e_iload f303_182 rfl ?_
        refine e_aload_n f303_184 rfl ?_
        refine e_getR f303_185 (WF.t w 86 (by decide)) rfl (WF.r (q := 157) w 86 96 (by decide)) ?_
        refine e_iload f303_188 rfl ?_
        refine e_iconst (v := 1) f303_190 (by decide) ?_
        refine e_isub f303_191 ?_
        by_cases hg25 : ((v5) - (1)) < (0 : Int32) ∨ 9 ≤ ((v5) - (1)).toNatClampNeg
        · rw [if_pos hg25] at hp; cases hp
        rw [if_neg hg25] at hp
        refine e_iaload f303_192 (Or.inl (WF.t w 157 (by decide))) (WF.n w 157 (by decide)) hg25 ?_
        by_cases hg26 : (v5) < (0 : Int32) ∨ 9 ≤ (v5).toNatClampNeg
        · rw [if_pos hg26] at hp; cases hp
        rw [if_neg hg26] at hp
        refine e_iastore f303_193 (WF.t w 157 (by decide)) (WF.n w 157 (by decide)) hg26 ?_
        refine e_iinc (ls2 := [some (.ref (86)), some (.int (a0)), none, none, some (.int (v4)), some (.int ((v5) + (-1))), none, none, none]) f303_194 (by decide) rfl rfl ?_
        refine e_goto f303_197 ?_
        refine ex_weak (ls := [some (.ref (86)), some (.int (a0)), none, none, some (.int (v4)), some (.int ((v5) + (-1))), none, none, none]) (le2_ok ⟨Or.inr rfl, Or.inr rfl, Or.inl rfl, Or.inl rfl, Or.inr rfl, Or.inr rfl, Or.inl rfl, Or.inl rfl, Or.inl rfl, trivial⟩) ?_
        exact ih (hsI (h) (157) (v5).toNatClampNeg (hI (h) (157) ((v5) - (1)).toNatClampNeg)) (w) (v4) ((v5) + (-1)) _ hp
      · rw [if_neg hc24] at hp
        refine e_icmp_le_t f303_175 hc24 ?_
        refine ex_weak (ls := [some (.ref (86)), some (.int (a0)), none, none, some (.int (v4)), some (.int (v5)), none, none, none]) (le2_ok ⟨Or.inr rfl, Or.inr rfl, Or.inl rfl, Or.inl rfl, Or.inr rfl, Or.inr rfl, Or.inl rfl, Or.inl rfl, Or.inl rfl, trivial⟩) ?_
        exact p303_j200_ok d F a0 a1 (K139) (hK139) (h) (w) (v4) (v5) _ hp
    · rw [if_neg hc20] at hp
      refine e_if_le_t f303_151 hc20 ?_
      refine ex_weak (ls := [some (.ref (86)), some (.int (a0)), none, none, some (.int (v4)), some (.int (v5)), none, none, none]) (le2_ok ⟨Or.inr rfl, Or.inr rfl, Or.inl rfl, Or.inl rfl, Or.inr rfl, Or.inr rfl, Or.inl rfl, Or.inl rfl, Or.inl rfl, trivial⟩) ?_
      exact p303_j200_ok d F a0 a1 (K139) (hK139) (h) (w) (v4) (v5) _ hp
set_option maxRecDepth 100000 in
set_option maxHeartbeats 4000000 in
theorem p303_L149_w (F : Nat) (a0 : Int32) (a1 : Int64) (K139 : HS → Int32 → Option (Int64 × HS)) (hK139 : ∀ (h : HS) (w : WF h) (u4 : Int32) (r : Int64 × HS), K139 h u4 = some r → WF r.2) : ∀ (n : Nat) (h : HS) (w : WF h) (v4 : Int32) (v5 : Int32) (r : Int64 × HS), p303_L149 F a0 a1 K139 n h v4 v5 = some r → WF r.2 := by
  intro n
  induction n with
  | zero => intro h w v4 v5 r hp; cases hp
  | succ n ih =>
    intro h w v4 v5 r hp
    unfold p303_L149 at hp
    by_cases hc20 : (0 : Int32) < (v5)
    · rw [if_pos hc20] at hp
      by_cases hg21 : ((v5) - (1)) < (0 : Int32) ∨ 9 ≤ ((v5) - (1)).toNatClampNeg
      · rw [if_pos hg21] at hp; cases hp
      rw [if_neg hg21] at hp
      by_cases hg22 : (hI (h) (157) ((v5) - (1)).toNatClampNeg) < (0 : Int32) ∨ 9 ≤ (hI (h) (157) ((v5) - (1)).toNatClampNeg).toNatClampNeg
      · rw [if_pos hg22] at hp; cases hp
      rw [if_neg hg22] at hp
      by_cases hg23 : (v4) < (0 : Int32) ∨ 9 ≤ (v4).toNatClampNeg
      · rw [if_pos hg23] at hp; cases hp
      rw [if_neg hg23] at hp
      by_cases hc24 : (hI (h) (156) (v4).toNatClampNeg) < ((hI (h) (156) (hI (h) (157) ((v5) - (1)).toNatClampNeg).toNatClampNeg) : Int32)
      · rw [if_pos hc24] at hp
        by_cases hg25 : ((v5) - (1)) < (0 : Int32) ∨ 9 ≤ ((v5) - (1)).toNatClampNeg
        · rw [if_pos hg25] at hp; cases hp
        rw [if_neg hg25] at hp
        by_cases hg26 : (v5) < (0 : Int32) ∨ 9 ≤ (v5).toNatClampNeg
        · rw [if_pos hg26] at hp; cases hp
        rw [if_neg hg26] at hp
        exact ih (hsI (h) (157) (v5).toNatClampNeg (hI (h) (157) ((v5) - (1)).toNatClampNeg)) (w) (v4) ((v5) + (-1)) _ hp
      · rw [if_neg hc24] at hp
        exact p303_j200_w F a0 a1 (K139) (hK139) (h) (w) (v4) (v5) _ hp
    · rw [if_neg hc20] at hp
      exact p303_j200_w F a0 a1 (K139) (hK139) (h) (w) (v4) (v5) _ hp
set_option maxRecDepth 100000 in
set_option maxHeartbeats 4000000 in
theorem p303_L357_ok (d : Nat) (F : Nat) (a0 : Int32) (a1 : Int64) (K348 : HS → Int32 → Int32 → Option (Int64 × HS)) (hK348 : ∀ (h : HS) (w : WF h) (u5 : Int32) (u6 : Int32) (r : Int64 × HS), K348 h u5 u6 = some r → ex (d + 1) 303 (348, [some (.ref (86)), some (.int (a0)), none, none, none, some (.int (u5)), some (.int (u6)), none, none], [], h) = some (some (.long (r.1)), r.2)) : ∀ (n : Nat) (h : HS) (w : WF h) (v5 : Int32) (v6 : Int32) (v7 : Int32) (r : Int64 × HS), p303_L357 F a0 a1 K348 n h v5 v6 v7 = some r → ex (d + 1) 303 (357, [some (.ref (86)), some (.int (a0)), none, none, none, some (.int (v5)), some (.int (v6)), some (.int (v7)), none], [], h) = some (some (.long (r.1)), r.2) := by
  intro n
  induction n with
  | zero => intro h w v5 v6 v7 r hp; cases hp
  | succ n ih =>
    intro h w v5 v6 v7 r hp
    unfold p303_L357 at hp
    refine e_iload f303_357 rfl ?_
    refine e_aload_n f303_359 rfl ?_
    refine e_getR f303_360 (WF.t w 86 (by decide)) rfl (WF.r (q := 157) w 86 96 (by decide)) ?_
    refine e_iload f303_363 rfl ?_
    by_cases hg40 : (v7) < (0 : Int32) ∨ 9 ≤ (v7).toNatClampNeg
    · rw [if_pos hg40] at hp; cases hp
    rw [if_neg hg40] at hp
    refine e_iaload f303_365 (Or.inl (WF.t w 157 (by decide))) (WF.n w 157 (by decide)) hg40 ?_
    refine e_ishr f303_366 ?_
    refine e_iconst (v := 1) f303_367 (by decide) ?_
    refine e_iand f303_368 ?_
    refine e_iconst (v := 1) f303_369 (by decide) ?_
    by_cases hc41 : (((v5) >>> ((hI (h) (157) (v7).toNatClampNeg) &&& 31)) &&& (1)) = ((1) : Int32)
    · rw [if_pos hc41] at hp
      refine e_icmp_eq_t f303_370 hc41 ?_
      refine ex_weak (ls := [some (.ref (86)), some (.int (a0)), none, none, none, some (.int (v5)), some (.int (v6)), some (.int (v7)), none]) (le2_ok ⟨Or.inr rfl, Or.inr rfl, Or.inl rfl, Or.inl rfl, Or.inl rfl, Or.inr rfl, Or.inr rfl, Or.inr rfl, Or.inl rfl, trivial⟩) ?_
      exact p303_j425_ok d F a0 a1 (K348) ((p303_L357 F a0 a1 K348 n)) (hK348) (ih) (h) (w) (v5) (v6) (v7) _ hp
    · rw [if_neg hc41] at hp
      refine e_icmp_eq_f f303_370 hc41 ?_
      refine e_aload_n f303_373 rfl ?_
      refine e_iload f303_374 rfl ?_
      refine e_iconst (v := 1) f303_376 (by decide) ?_
      refine e_aload_n f303_377 rfl ?_
      refine e_getR f303_378 (WF.t w 86 (by decide)) rfl (WF.r (q := 157) w 86 96 (by decide)) ?_
      refine e_iload f303_381 rfl ?_
      by_cases hg42 : (v7) < (0 : Int32) ∨ 9 ≤ (v7).toNatClampNeg
      · rw [if_pos hg42] at hp; cases hp
      rw [if_neg hg42] at hp
      refine e_iaload f303_383 (Or.inl (WF.t w 157 (by decide))) (WF.n w 157 (by decide)) hg42 ?_
      refine e_ishl f303_384 ?_
      refine e_ior f303_385 ?_
      refine e_aload_n f303_386 rfl ?_
      refine e_getR f303_387 (WF.t w 86 (by decide)) rfl (WF.r (q := 157) w 86 96 (by decide)) ?_
      refine e_iload f303_390 rfl ?_
      by_cases hg43 : (v7) < (0 : Int32) ∨ 9 ≤ (v7).toNatClampNeg
      · rw [if_pos hg43] at hp; cases hp
      rw [if_neg hg43] at hp
      refine e_iaload f303_392 (Or.inl (WF.t w 157 (by decide))) (WF.n w 157 (by decide)) hg43 ?_
      obtain ⟨r44, hr45, hp⟩ := bind_some hp
      try dsimp only at hp
      refine e_callV (st := []) (o := 86) (as := [.int ((v5) ||| ((1) <<< ((hI (h) (157) (v7).toNatClampNeg) &&& 31))), .int (hI (h) (157) (v7).toNatClampNeg)]) f303_393 (by decide) rfl rfl (Nat.le_of_ble_eq_true rfl) (WF.t w 86 (by decide)) (Nat.le_of_ble_eq_true rfl) (p302_ok d F (h) w ((v5) ||| ((1) <<< ((hI (h) (157) (v7).toNatClampNeg) &&& 31))) (hI (h) (157) (v7).toNatClampNeg) r44 hr45) ?_
      show ex _ 303 (396, [some (.ref (86)), some (.int (a0)), none, none, none, some (.int (v5)), some (.int (v6)), some (.int (v7)), none], [.long (r44)], h) = _
      refine e_aload_n f303_396 rfl ?_
      refine e_getR f303_397 (WF.t w 86 (by decide)) rfl (WF.r (q := 159) w 86 98 (by decide)) ?_
      refine e_iload f303_400 rfl ?_
      refine e_iconst (v := 1) f303_402 (by decide) ?_
      refine e_aload_n f303_403 rfl ?_
      refine e_getR f303_404 (WF.t w 86 (by decide)) rfl (WF.r (q := 157) w 86 96 (by decide)) ?_
      refine e_iload f303_407 rfl ?_
      by_cases hg46 : (v7) < (0 : Int32) ∨ 9 ≤ (v7).toNatClampNeg
      · rw [if_pos hg46] at hp; cases hp
      rw [if_neg hg46] at hp
      refine e_iaload f303_409 (Or.inl (WF.t w 157 (by decide))) (WF.n w 157 (by decide)) hg46 ?_
      refine e_ishl f303_410 ?_
      refine e_ior f303_411 ?_
      by_cases hg47 : ((v5) ||| ((1) <<< ((hI (h) (157) (v7).toNatClampNeg) &&& 31))) < (0 : Int32) ∨ 512 ≤ ((v5) ||| ((1) <<< ((hI (h) (157) (v7).toNatClampNeg) &&& 31))).toNatClampNeg
      · rw [if_pos hg47] at hp; cases hp
      rw [if_neg hg47] at hp
      refine e_laload f303_412 (WF.t w 159 (by decide)) (WF.n w 159 (by decide)) hg47 ?_
      refine e_ladd f303_413 ?_
      refine e_aload_n f303_414 rfl ?_
      refine e_getR f303_415 (WF.t w 86 (by decide)) rfl (WF.r (q := 159) w 86 98 (by decide)) ?_
      refine e_iload f303_418 rfl ?_
      by_cases hg48 : (v5) < (0 : Int32) ∨ 512 ≤ (v5).toNatClampNeg
      · rw [if_pos hg48] at hp; cases hp
      rw [if_neg hg48] at hp
      refine e_laload f303_420 (WF.t w 159 (by decide)) (WF.n w 159 (by decide)) hg48 ?_
      refine e_lcmp f303_421 ?_
      by_cases hc49 : (lg_cmp ((r44) + (hL (h) (159) ((v5) ||| ((1) <<< ((hI (h) (157) (v7).toNatClampNeg) &&& 31))).toNatClampNeg)) (hL (h) (159) (v5).toNatClampNeg)) = (0 : Int32)
      · rw [if_pos hc49] at hp
        refine e_if_eq_t f303_422 hc49 ?_
        refine e_aload_n f303_431 rfl ?_
        refine e_getR f303_432 (WF.t w 86 (by decide)) rfl (WF.r (q := 158) w 86 97 (by decide)) ?_
        refine e_iload f303_435 rfl ?_
        refine e_aload_n f303_437 rfl ?_
        refine e_getR f303_438 (WF.t w 86 (by decide)) rfl (WF.r (q := 156) w 86 95 (by decide)) ?_
        refine e_aload_n f303_441 rfl ?_
        refine e_getR f303_442 (WF.t w 86 (by decide)) rfl (WF.r (q := 157) w 86 96 (by decide)) ?_
        refine e_iload f303_445 rfl ?_
        by_cases hg50 : (v7) < (0 : Int32) ∨ 9 ≤ (v7).toNatClampNeg
        · rw [if_pos hg50] at hp; cases hp
        rw [if_neg hg50] at hp
        refine e_iaload f303_447 (Or.inl (WF.t w 157 (by decide))) (WF.n w 157 (by decide)) hg50 ?_
        by_cases hg51 : (hI (h) (157) (v7).toNatClampNeg) < (0 : Int32) ∨ 9 ≤ (hI (h) (157) (v7).toNatClampNeg).toNatClampNeg
        · rw [if_pos hg51] at hp; cases hp
        rw [if_neg hg51] at hp
        refine e_iaload f303_448 (Or.inl (WF.t w 156 (by decide))) (WF.n w 156 (by decide)) hg51 ?_
        by_cases hg52 : (v6) < (0 : Int32) ∨ 9 ≤ (v6).toNatClampNeg
        · rw [if_pos hg52] at hp; cases hp
        rw [if_neg hg52] at hp
        refine e_iastore f303_449 (WF.t w 158 (by decide)) (WF.n w 158 (by decide)) hg52 ?_
        obtain ⟨h53, e54, hp⟩ := bind_some hp
        try dsimp only at hp
        have e54 := Option.some.inj e54
        have w55 : WF h53 := e54 ▸ w
        rw [e54]
        refine e_iload f303_450 rfl ?_
        refine e_iconst (v := 1) f303_452 (by decide) ?_
        refine e_aload_n f303_453 rfl ?_
        refine e_getR f303_454 (WF.t w55 86 (by decide)) rfl (WF.r (q := 157) w55 86 96 (by decide)) ?_
        refine e_iload f303_457 rfl ?_
        by_cases hg56 : (v7) < (0 : Int32) ∨ 9 ≤ (v7).toNatClampNeg
        · rw [if_pos hg56] at hp; cases hp
        rw [if_neg hg56] at hp
        refine e_iaload f303_459 (Or.inl (WF.t w55 157 (by decide))) (WF.n w55 157 (by decide)) hg56 ?_
        refine e_ishl f303_460 ?_
        refine e_ior f303_461 ?_
        refine e_istore (ls2 := [some (.ref (86)), some (.int (a0)), none, none, none, some (.int ((v5) ||| ((1) <<< ((hI (h53) (157) (v7).toNatClampNeg) &&& 31)))), some (.int (v6)), some (.int (v7)), none]) f303_462 (Nat.le_of_ble_eq_true rfl) rfl ?_
        refine e_iinc (ls2 := [some (.ref (86)), some (.int (a0)), none, none, none, some (.int ((v5) ||| ((1) <<< ((hI (h53) (157) (v7).toNatClampNeg) &&& 31)))), some (.int ((v6) + 1)), some (.int (v7)), none]) f303_464 (by decide) rfl rfl ?_
        refine e_goto f303_467 ?_
        refine ex_weak (ls := [some (.ref (86)), some (.int (a0)), none, none, none, some (.int ((v5) ||| ((1) <<< ((hI (h53) (157) (v7).toNatClampNeg) &&& 31)))), some (.int ((v6) + 1)), none, none]) (le2_ok ⟨Or.inr rfl, Or.inr rfl, Or.inl rfl, Or.inl rfl, Or.inl rfl, Or.inr rfl, Or.inr rfl, Or.inl rfl, Or.inl rfl, trivial⟩) ?_
        exact hK348 (h53) (w55) ((v5) ||| ((1) <<< ((hI (h53) (157) (v7).toNatClampNeg) &&& 31))) ((v6) + 1) _ hp
      · rw [if_neg hc49] at hp
        refine e_if_eq_f f303_422 hc49 ?_
        refine ex_weak (ls := [some (.ref (86)), some (.int (a0)), none, none, none, some (.int (v5)), some (.int (v6)), some (.int (v7)), none]) (le2_ok ⟨Or.inr rfl, Or.inr rfl, Or.inl rfl, Or.inl rfl, Or.inl rfl, Or.inr rfl, Or.inr rfl, Or.inr rfl, Or.inl rfl, trivial⟩) ?_
        exact p303_j425_ok d F a0 a1 (K348) ((p303_L357 F a0 a1 K348 n)) (hK348) (ih) (h) (w) (v5) (v6) (v7) _ hp
set_option maxRecDepth 100000 in
set_option maxHeartbeats 4000000 in
theorem p303_L357_w (F : Nat) (a0 : Int32) (a1 : Int64) (K348 : HS → Int32 → Int32 → Option (Int64 × HS)) (hK348 : ∀ (h : HS) (w : WF h) (u5 : Int32) (u6 : Int32) (r : Int64 × HS), K348 h u5 u6 = some r → WF r.2) : ∀ (n : Nat) (h : HS) (w : WF h) (v5 : Int32) (v6 : Int32) (v7 : Int32) (r : Int64 × HS), p303_L357 F a0 a1 K348 n h v5 v6 v7 = some r → WF r.2 := by
  intro n
  induction n with
  | zero => intro h w v5 v6 v7 r hp; cases hp
  | succ n ih =>
    intro h w v5 v6 v7 r hp
    unfold p303_L357 at hp
    by_cases hg40 : (v7) < (0 : Int32) ∨ 9 ≤ (v7).toNatClampNeg
    · rw [if_pos hg40] at hp; cases hp
    rw [if_neg hg40] at hp
    by_cases hc41 : (((v5) >>> ((hI (h) (157) (v7).toNatClampNeg) &&& 31)) &&& (1)) = ((1) : Int32)
    · rw [if_pos hc41] at hp
      exact p303_j425_w F a0 a1 (K348) ((p303_L357 F a0 a1 K348 n)) (hK348) (ih) (h) (w) (v5) (v6) (v7) _ hp
    · rw [if_neg hc41] at hp
      by_cases hg42 : (v7) < (0 : Int32) ∨ 9 ≤ (v7).toNatClampNeg
      · rw [if_pos hg42] at hp; cases hp
      rw [if_neg hg42] at hp
      by_cases hg43 : (v7) < (0 : Int32) ∨ 9 ≤ (v7).toNatClampNeg
      · rw [if_pos hg43] at hp; cases hp
      rw [if_neg hg43] at hp
      obtain ⟨r44, hr45, hp⟩ := bind_some hp
      try dsimp only at hp
      by_cases hg46 : (v7) < (0 : Int32) ∨ 9 ≤ (v7).toNatClampNeg
      · rw [if_pos hg46] at hp; cases hp
      rw [if_neg hg46] at hp
      by_cases hg47 : ((v5) ||| ((1) <<< ((hI (h) (157) (v7).toNatClampNeg) &&& 31))) < (0 : Int32) ∨ 512 ≤ ((v5) ||| ((1) <<< ((hI (h) (157) (v7).toNatClampNeg) &&& 31))).toNatClampNeg
      · rw [if_pos hg47] at hp; cases hp
      rw [if_neg hg47] at hp
      by_cases hg48 : (v5) < (0 : Int32) ∨ 512 ≤ (v5).toNatClampNeg
      · rw [if_pos hg48] at hp; cases hp
      rw [if_neg hg48] at hp
      by_cases hc49 : (lg_cmp ((r44) + (hL (h) (159) ((v5) ||| ((1) <<< ((hI (h) (157) (v7).toNatClampNeg) &&& 31))).toNatClampNeg)) (hL (h) (159) (v5).toNatClampNeg)) = (0 : Int32)
      · rw [if_pos hc49] at hp
        by_cases hg50 : (v7) < (0 : Int32) ∨ 9 ≤ (v7).toNatClampNeg
        · rw [if_pos hg50] at hp; cases hp
        rw [if_neg hg50] at hp
        by_cases hg51 : (hI (h) (157) (v7).toNatClampNeg) < (0 : Int32) ∨ 9 ≤ (hI (h) (157) (v7).toNatClampNeg).toNatClampNeg
        · rw [if_pos hg51] at hp; cases hp
        rw [if_neg hg51] at hp
        by_cases hg52 : (v6) < (0 : Int32) ∨ 9 ≤ (v6).toNatClampNeg
        · rw [if_pos hg52] at hp; cases hp
        rw [if_neg hg52] at hp
        obtain ⟨h53, e54, hp⟩ := bind_some hp
        try dsimp only at hp
        have e54 := Option.some.inj e54
        have w55 : WF h53 := e54 ▸ w
        by_cases hg56 : (v7) < (0 : Int32) ∨ 9 ≤ (v7).toNatClampNeg
        · rw [if_pos hg56] at hp; cases hp
        rw [if_neg hg56] at hp
        exact hK348 (h53) (w55) ((v5) ||| ((1) <<< ((hI (h53) (157) (v7).toNatClampNeg) &&& 31))) ((v6) + 1) _ hp
      · rw [if_neg hc49] at hp
        exact p303_j425_w F a0 a1 (K348) ((p303_L357 F a0 a1 K348 n)) (hK348) (ih) (h) (w) (v5) (v6) (v7) _ hp
set_option maxRecDepth 100000 in
set_option maxHeartbeats 4000000 in
theorem p303_j329_ok (d : Nat) (F : Nat) (a0 : Int32) (a1 : Int64) (K236 : HS → Int32 → Option (Int64 × HS)) (K254 : HS → Int32 → Int32 → Option (Int64 × HS)) (hK236 : ∀ (h : HS) (w : WF h) (u5 : Int32) (r : Int64 × HS), K236 h u5 = some r → ex (d + 1) 303 (236, [some (.ref (86)), some (.int (a0)), none, none, none, some (.int (u5)), none, none, none], [], h) = some (some (.long (r.1)), r.2)) (hK254 : ∀ (h : HS) (w : WF h) (u5 : Int32) (u6 : Int32) (r : Int64 × HS), K254 h u5 u6 = some r → ex (d + 1) 303 (254, [some (.ref (86)), some (.int (a0)), none, none, none, some (.int (u5)), some (.int (u6)), none, none], [], h) = some (some (.long (r.1)), r.2)) (h : HS) (w : WF h) (v5 : Int32) (v6 : Int32) (s0 : Int64) (s1 : Int32) (r : Int64 × HS) (hp : p303_j329 F a0 a1 K236 K254 h v5 v6 s0 s1 = some r) : ex (d + 1) 303 (329, [some (.ref (86)), some (.int (a0)), none, none, none, some (.int (v5)), some (.int (v6)), none, none], [.long (s0), .int (s1), .ref (159)], h) = some (some (.long (r.1)), r.2) := by
  unfold p303_j329 at hp
  by_cases hg57 : (s1) < (0 : Int32) ∨ 512 ≤ (s1).toNatClampNeg
  · rw [if_pos hg57] at hp; cases hp
  rw [if_neg hg57] at hp
  refine e_lastore f303_329 (WF.t w 159 (by decide)) (WF.n w 159 (by decide)) hg57 ?_
  refine ex_weak (ls := [some (.ref (86)), some (.int (a0)), none, none, none, some (.int (v5)), some (.int (v6)), none, none]) (le2_ok ⟨Or.inr rfl, Or.inr rfl, Or.inl rfl, Or.inl rfl, Or.inl rfl, Or.inr rfl, Or.inr rfl, Or.inl rfl, Or.inl rfl, trivial⟩) ?_
  exact p303_j330_ok d F a0 a1 (K236) (K254) (hK236) (hK254) (hsL (h) (159) (s1).toNatClampNeg (s0)) (w) (v5) (v6) _ hp
set_option maxRecDepth 100000 in
set_option maxHeartbeats 4000000 in
theorem p303_j329_w (F : Nat) (a0 : Int32) (a1 : Int64) (K236 : HS → Int32 → Option (Int64 × HS)) (K254 : HS → Int32 → Int32 → Option (Int64 × HS)) (hK236 : ∀ (h : HS) (w : WF h) (u5 : Int32) (r : Int64 × HS), K236 h u5 = some r → WF r.2) (hK254 : ∀ (h : HS) (w : WF h) (u5 : Int32) (u6 : Int32) (r : Int64 × HS), K254 h u5 u6 = some r → WF r.2) (h : HS) (w : WF h) (v5 : Int32) (v6 : Int32) (s0 : Int64) (s1 : Int32) (r : Int64 × HS) (hp : p303_j329 F a0 a1 K236 K254 h v5 v6 s0 s1 = some r) : WF r.2 := by
  unfold p303_j329 at hp
  by_cases hg57 : (s1) < (0 : Int32) ∨ 512 ≤ (s1).toNatClampNeg
  · rw [if_pos hg57] at hp; cases hp
  rw [if_neg hg57] at hp
  exact p303_j330_w F a0 a1 (K236) (K254) (hK236) (hK254) (hsL (h) (159) (s1).toNatClampNeg (s0)) (w) (v5) (v6) _ hp
set_option maxRecDepth 100000 in
set_option maxHeartbeats 4000000 in
theorem p303_L254_ok (d : Nat) (F : Nat) (a0 : Int32) (a1 : Int64) (K236 : HS → Int32 → Option (Int64 × HS)) (hK236 : ∀ (h : HS) (w : WF h) (u5 : Int32) (r : Int64 × HS), K236 h u5 = some r → ex (d + 1) 303 (236, [some (.ref (86)), some (.int (a0)), none, none, none, some (.int (u5)), none, none, none], [], h) = some (some (.long (r.1)), r.2)) : ∀ (n : Nat) (h : HS) (w : WF h) (v5 : Int32) (v6 : Int32) (r : Int64 × HS), p303_L254 F a0 a1 K236 n h v5 v6 = some r → ex (d + 1) 303 (254, [some (.ref (86)), some (.int (a0)), none, none, none, some (.int (v5)), some (.int (v6)), none, none], [], h) = some (some (.long (r.1)), r.2) := by
  intro n
  induction n with
  | zero => intro h w v5 v6 r hp; cases hp
  | succ n ih =>
    intro h w v5 v6 r hp
    unfold p303_L254 at hp
    refine e_iload f303_254 rfl ?_
    refine e_iload_n f303_256 rfl ?_
    by_cases hc32 : (v6) < ((a0) : Int32)
    · rw [if_pos hc32] at hp
      refine e_icmp_ge_f f303_257 hc32 ?_
      refine e_iload f303_260 rfl ?_
      refine e_iload f303_262 rfl ?_
      refine e_ishr f303_264 ?_
      refine e_iconst (v := 1) f303_265 (by decide) ?_
      refine e_iand f303_266 ?_
      by_cases hc33 : (((v5) >>> ((v6) &&& 31)) &&& (1)) = (0 : Int32)
      · rw [if_pos hc33] at hp
        refine e_if_ne_f f303_267 hc33 ?_
        refine e_aload_n f303_270 rfl ?_
        refine e_iload f303_271 rfl ?_
        refine e_iconst (v := 1) f303_273 (by decide) ?_
        refine e_iload f303_274 rfl ?_
        refine e_ishl f303_276 ?_
        refine e_ior f303_277 ?_
        refine e_iload f303_278 rfl ?_
        obtain ⟨r34, hr35, hp⟩ := bind_some hp
        try dsimp only at hp
        refine e_callV (st := []) (o := 86) (as := [.int ((v5) ||| ((1) <<< ((v6) &&& 31))), .int (v6)]) f303_280 (by decide) rfl rfl (Nat.le_of_ble_eq_true rfl) (WF.t w 86 (by decide)) (Nat.le_of_ble_eq_true rfl) (p302_ok d F (h) w ((v5) ||| ((1) <<< ((v6) &&& 31))) (v6) r34 hr35) ?_
        show ex _ 303 (283, [some (.ref (86)), some (.int (a0)), none, none, none, some (.int (v5)), some (.int (v6)), none, none], [.long (r34)], h) = _
        refine e_aload_n f303_283 rfl ?_
        refine e_getR f303_284 (WF.t w 86 (by decide)) rfl (WF.r (q := 159) w 86 98 (by decide)) ?_
        refine e_iload f303_287 rfl ?_
        refine e_iconst (v := 1) f303_289 (by decide) ?_
        refine e_iload f303_290 rfl ?_
        refine e_ishl f303_292 ?_
        refine e_ior f303_293 ?_
        by_cases hg36 : ((v5) ||| ((1) <<< ((v6) &&& 31))) < (0 : Int32) ∨ 512 ≤ ((v5) ||| ((1) <<< ((v6) &&& 31))).toNatClampNeg
        · rw [if_pos hg36] at hp; cases hp
        rw [if_neg hg36] at hp
        refine e_laload f303_294 (WF.t w 159 (by decide)) (WF.n w 159 (by decide)) hg36 ?_
        refine e_ladd f303_295 ?_
        refine e_lstore (ls2 := [some (.ref (86)), some (.int (a0)), none, none, none, some (.int (v5)), some (.int (v6)), some (.long ((r34) + (hL (h) (159) ((v5) ||| ((1) <<< ((v6) &&& 31))).toNatClampNeg))), none]) f303_296 (Nat.le_of_ble_eq_true rfl) rfl ?_
        refine e_aload_n f303_298 rfl ?_
        refine e_getR f303_299 (WF.t w 86 (by decide)) rfl (WF.r (q := 159) w 86 98 (by decide)) ?_
        refine e_iload f303_302 rfl ?_
        refine e_lload f303_304 rfl ?_
        refine e_aload_n f303_306 rfl ?_
        refine e_getR f303_307 (WF.t w 86 (by decide)) rfl (WF.r (q := 159) w 86 98 (by decide)) ?_
        refine e_iload f303_310 rfl ?_
        by_cases hg37 : (v5) < (0 : Int32) ∨ 512 ≤ (v5).toNatClampNeg
        · rw [if_pos hg37] at hp; cases hp
        rw [if_neg hg37] at hp
        refine e_laload f303_312 (WF.t w 159 (by decide)) (WF.n w 159 (by decide)) hg37 ?_
        refine e_lcmp f303_313 ?_
        by_cases hc38 : (lg_cmp ((r34) + (hL (h) (159) ((v5) ||| ((1) <<< ((v6) &&& 31))).toNatClampNeg)) (hL (h) (159) (v5).toNatClampNeg)) < (0 : Int32)
        · rw [if_pos hc38] at hp
          refine e_if_ge_f f303_314 hc38 ?_
          refine e_lload f303_317 rfl ?_
          refine e_goto f303_319 ?_
          refine ex_weak (ls := [some (.ref (86)), some (.int (a0)), none, none, none, some (.int (v5)), some (.int (v6)), none, none]) (le2_ok ⟨Or.inr rfl, Or.inr rfl, Or.inl rfl, Or.inl rfl, Or.inl rfl, Or.inr rfl, Or.inr rfl, Or.inl rfl, Or.inl rfl, trivial⟩) ?_
          exact p303_j329_ok d F a0 a1 (K236) ((p303_L254 F a0 a1 K236 n)) (hK236) (ih) (h) (w) (v5) (v6) ((r34) + (hL (h) (159) ((v5) ||| ((1) <<< ((v6) &&& 31))).toNatClampNeg)) (v5) _ hp
        · rw [if_neg hc38] at hp
          refine e_if_ge_t f303_314 hc38 ?_
          refine e_aload_n f303_322 rfl ?_
          refine e_getR f303_323 (WF.t w 86 (by decide)) rfl (WF.r (q := 159) w 86 98 (by decide)) ?_
          refine e_iload f303_326 rfl ?_
          by_cases hg39 : (v5) < (0 : Int32) ∨ 512 ≤ (v5).toNatClampNeg
          · rw [if_pos hg39] at hp; cases hp
          rw [if_neg hg39] at hp
          refine e_laload f303_328 (WF.t w 159 (by decide)) (WF.n w 159 (by decide)) hg39 ?_
          refine ex_weak (ls := [some (.ref (86)), some (.int (a0)), none, none, none, some (.int (v5)), some (.int (v6)), none, none]) (le2_ok ⟨Or.inr rfl, Or.inr rfl, Or.inl rfl, Or.inl rfl, Or.inl rfl, Or.inr rfl, Or.inr rfl, Or.inl rfl, Or.inl rfl, trivial⟩) ?_
          exact p303_j329_ok d F a0 a1 (K236) ((p303_L254 F a0 a1 K236 n)) (hK236) (ih) (h) (w) (v5) (v6) (hL (h) (159) (v5).toNatClampNeg) (v5) _ hp
      · rw [if_neg hc33] at hp
        refine e_if_ne_t f303_267 hc33 ?_
        refine ex_weak (ls := [some (.ref (86)), some (.int (a0)), none, none, none, some (.int (v5)), some (.int (v6)), none, none]) (le2_ok ⟨Or.inr rfl, Or.inr rfl, Or.inl rfl, Or.inl rfl, Or.inl rfl, Or.inr rfl, Or.inr rfl, Or.inl rfl, Or.inl rfl, trivial⟩) ?_
        exact p303_j330_ok d F a0 a1 (K236) ((p303_L254 F a0 a1 K236 n)) (hK236) (ih) (h) (w) (v5) (v6) _ hp
    · rw [if_neg hc32] at hp
      refine e_icmp_ge_t f303_257 hc32 ?_
      refine e_iinc (ls2 := [some (.ref (86)), some (.int (a0)), none, none, none, some (.int ((v5) + (-1))), some (.int (v6)), none, none]) f303_336 (by decide) rfl rfl ?_
      refine e_goto f303_339 ?_
      refine ex_weak (ls := [some (.ref (86)), some (.int (a0)), none, none, none, some (.int ((v5) + (-1))), none, none, none]) (le2_ok ⟨Or.inr rfl, Or.inr rfl, Or.inl rfl, Or.inl rfl, Or.inl rfl, Or.inr rfl, Or.inl rfl, Or.inl rfl, Or.inl rfl, trivial⟩) ?_
      exact hK236 (h) (w) ((v5) + (-1)) _ hp
set_option maxRecDepth 100000 in
set_option maxHeartbeats 4000000 in
theorem p303_L254_w (F : Nat) (a0 : Int32) (a1 : Int64) (K236 : HS → Int32 → Option (Int64 × HS)) (hK236 : ∀ (h : HS) (w : WF h) (u5 : Int32) (r : Int64 × HS), K236 h u5 = some r → WF r.2) : ∀ (n : Nat) (h : HS) (w : WF h) (v5 : Int32) (v6 : Int32) (r : Int64 × HS), p303_L254 F a0 a1 K236 n h v5 v6 = some r → WF r.2 := by
  intro n
  induction n with
  | zero => intro h w v5 v6 r hp; cases hp
  | succ n ih =>
    intro h w v5 v6 r hp
    unfold p303_L254 at hp
    by_cases hc32 : (v6) < ((a0) : Int32)
    · rw [if_pos hc32] at hp
      by_cases hc33 : (((v5) >>> ((v6) &&& 31)) &&& (1)) = (0 : Int32)
      · rw [if_pos hc33] at hp
        obtain ⟨r34, hr35, hp⟩ := bind_some hp
        try dsimp only at hp
        by_cases hg36 : ((v5) ||| ((1) <<< ((v6) &&& 31))) < (0 : Int32) ∨ 512 ≤ ((v5) ||| ((1) <<< ((v6) &&& 31))).toNatClampNeg
        · rw [if_pos hg36] at hp; cases hp
        rw [if_neg hg36] at hp
        by_cases hg37 : (v5) < (0 : Int32) ∨ 512 ≤ (v5).toNatClampNeg
        · rw [if_pos hg37] at hp; cases hp
        rw [if_neg hg37] at hp
        by_cases hc38 : (lg_cmp ((r34) + (hL (h) (159) ((v5) ||| ((1) <<< ((v6) &&& 31))).toNatClampNeg)) (hL (h) (159) (v5).toNatClampNeg)) < (0 : Int32)
        · rw [if_pos hc38] at hp
          exact p303_j329_w F a0 a1 (K236) ((p303_L254 F a0 a1 K236 n)) (hK236) (ih) (h) (w) (v5) (v6) ((r34) + (hL (h) (159) ((v5) ||| ((1) <<< ((v6) &&& 31))).toNatClampNeg)) (v5) _ hp
        · rw [if_neg hc38] at hp
          by_cases hg39 : (v5) < (0 : Int32) ∨ 512 ≤ (v5).toNatClampNeg
          · rw [if_pos hg39] at hp; cases hp
          rw [if_neg hg39] at hp
          exact p303_j329_w F a0 a1 (K236) ((p303_L254 F a0 a1 K236 n)) (hK236) (ih) (h) (w) (v5) (v6) (hL (h) (159) (v5).toNatClampNeg) (v5) _ hp
      · rw [if_neg hc33] at hp
        exact p303_j330_w F a0 a1 (K236) ((p303_L254 F a0 a1 K236 n)) (hK236) (ih) (h) (w) (v5) (v6) _ hp
    · rw [if_neg hc32] at hp
      exact hK236 (h) (w) ((v5) + (-1)) _ hp
set_option maxRecDepth 100000 in
set_option maxHeartbeats 4000000 in
theorem p303_L348_ok (d : Nat) (F : Nat) (a0 : Int32) (a1 : Int64) : ∀ (n : Nat) (h : HS) (w : WF h) (v5 : Int32) (v6 : Int32) (r : Int64 × HS), p303_L348 F a0 a1 n h v5 v6 = some r → ex (d + 1) 303 (348, [some (.ref (86)), some (.int (a0)), none, none, none, some (.int (v5)), some (.int (v6)), none, none], [], h) = some (some (.long (r.1)), r.2) := by
  intro n
  induction n with
  | zero => intro h w v5 v6 r hp; cases hp
  | succ n ih =>
    intro h w v5 v6 r hp
    unfold p303_L348 at hp
    refine e_iload f303_348 rfl ?_
    refine e_iload_n f303_350 rfl ?_
    by_cases hc30 : (v6) < ((a0) : Int32)
    · rw [if_pos hc30] at hp
      refine e_icmp_ge_f f303_351 hc30 ?_
      refine e_iconst (v := 0) f303_354 (by decide) ?_
      refine e_istore (ls2 := [some (.ref (86)), some (.int (a0)), none, none, none, some (.int (v5)), some (.int (v6)), some (.int (0)), none]) f303_355 (Nat.le_of_ble_eq_true rfl) rfl ?_
      refine ex_weak (ls := [some (.ref (86)), some (.int (a0)), none, none, none, some (.int (v5)), some (.int (v6)), some (.int (0)), none]) (le2_ok ⟨Or.inr rfl, Or.inr rfl, Or.inl rfl, Or.inl rfl, Or.inl rfl, Or.inr rfl, Or.inr rfl, Or.inr rfl, Or.inl rfl, trivial⟩) ?_
      exact p303_L357_ok d F a0 a1 ((p303_L348 F a0 a1 n)) (ih) F (h) (w) (v5) (v6) (0) _ hp
    · rw [if_neg hc30] at hp
      refine e_icmp_ge_t f303_351 hc30 ?_
      refine e_aload_n f303_470 rfl ?_
      refine e_iload_n f303_471 rfl ?_
      refine e_putI f303_472 (WF.t w 86 (by decide)) rfl ?_
      refine e_aload_n f303_475 rfl ?_
      refine e_iconst (v := 0) f303_476 (by decide) ?_
      refine e_putI f303_477 (WF.t w 86 (by decide)) rfl ?_
      refine e_aload_n f303_480 rfl ?_
      refine e_getR f303_481 (WF.t w 86 (by decide)) rfl (WF.r (q := 159) w 86 98 (by decide)) ?_
      refine e_iconst (v := 0) f303_484 (by decide) ?_
      by_cases hg31 : (0) < (0 : Int32) ∨ 512 ≤ (0 : Int32).toNatClampNeg
      · rw [if_pos hg31] at hp; cases hp
      rw [if_neg hg31] at hp
      refine e_laload f303_485 (WF.t w 159 (by decide)) (WF.n w 159 (by decide)) hg31 ?_
      have hp := Option.some.inj hp
      subst hp
      exact e_lreturn f303_486
set_option maxRecDepth 100000 in
set_option maxHeartbeats 4000000 in
theorem p303_L348_w (F : Nat) (a0 : Int32) (a1 : Int64) : ∀ (n : Nat) (h : HS) (w : WF h) (v5 : Int32) (v6 : Int32) (r : Int64 × HS), p303_L348 F a0 a1 n h v5 v6 = some r → WF r.2 := by
  intro n
  induction n with
  | zero => intro h w v5 v6 r hp; cases hp
  | succ n ih =>
    intro h w v5 v6 r hp
    unfold p303_L348 at hp
    by_cases hc30 : (v6) < ((a0) : Int32)
    · rw [if_pos hc30] at hp
      exact p303_L357_w F a0 a1 ((p303_L348 F a0 a1 n)) (ih) F (h) (w) (v5) (v6) (0) _ hp
    · rw [if_neg hc30] at hp
      by_cases hg31 : (0) < (0 : Int32) ∨ 512 ≤ (0 : Int32).toNatClampNeg
      · rw [if_pos hg31] at hp; cases hp
      rw [if_neg hg31] at hp
      have hp := Option.some.inj hp
      subst hp
      exact (w)
set_option maxRecDepth 100000 in
set_option maxHeartbeats 4000000 in
theorem p303_L236_ok (d : Nat) (F : Nat) (a0 : Int32) (a1 : Int64) : ∀ (n : Nat) (h : HS) (w : WF h) (v5 : Int32) (r : Int64 × HS), p303_L236 F a0 a1 n h v5 = some r → ex (d + 1) 303 (236, [some (.ref (86)), some (.int (a0)), none, none, none, some (.int (v5)), none, none, none], [], h) = some (some (.long (r.1)), r.2) := by
  intro n
  induction n with
  | zero => intro h w v5 r hp; cases hp
  | succ n ih =>
    intro h w v5 r hp
    unfold p303_L236 at hp
    refine e_iload f303_236 rfl ?_
    by_cases hc27 : (v5) < (0 : Int32)
    · rw [if_pos hc27] at hp
      refine e_if_lt_t f303_238 hc27 ?_
      refine e_iconst (v := 0) f303_342 (by decide) ?_
      refine e_istore (ls2 := [some (.ref (86)), some (.int (a0)), none, none, none, some (.int (0)), none, none, none]) f303_343 (Nat.le_of_ble_eq_true rfl) rfl ?_
      refine e_iconst (v := 0) f303_345 (by decide) ?_
      refine e_istore (ls2 := [some (.ref (86)), some (.int (a0)), none, none, none, some (.int (0)), some (.int (0)), none, none]) f303_346 (Nat.le_of_ble_eq_true rfl) rfl ?_
      refine ex_weak (ls := [some (.ref (86)), some (.int (a0)), none, none, none, some (.int (0)), some (.int (0)), none, none]) (le2_ok ⟨Or.inr rfl, Or.inr rfl, Or.inl rfl, Or.inl rfl, Or.inl rfl, Or.inr rfl, Or.inr rfl, Or.inl rfl, Or.inl rfl, trivial⟩) ?_
      exact p303_L348_ok d F a0 a1 F (h) (w) (0) (0) _ hp
    · rw [if_neg hc27] at hp
      refine e_if_lt_f f303_238 hc27 ?_
      refine e_aload_n f303_241 rfl ?_
      refine e_getR f303_242 (WF.t w 86 (by decide)) rfl (WF.r (q := 159) w 86 98 (by decide)) ?_
      refine e_iload f303_245 rfl ?_
      refine e_ldc2 (v := 9223372036854775807) f303_247 (by decide) ?_
      by_cases hg28 : (v5) < (0 : Int32) ∨ 512 ≤ (v5).toNatClampNeg
      · rw [if_pos hg28] at hp; cases hp
      rw [if_neg hg28] at hp
      refine e_lastore f303_250 (WF.t w 159 (by decide)) (WF.n w 159 (by decide)) hg28 ?_
      refine e_iconst (v := 0) f303_251 (by decide) ?_
      refine e_istore (ls2 := [some (.ref (86)), some (.int (a0)), none, none, none, some (.int (v5)), some (.int (0)), none, none]) f303_252 (Nat.le_of_ble_eq_true rfl) rfl ?_
      refine ex_weak (ls := [some (.ref (86)), some (.int (a0)), none, none, none, some (.int (v5)), some (.int (0)), none, none]) (le2_ok ⟨Or.inr rfl, Or.inr rfl, Or.inl rfl, Or.inl rfl, Or.inl rfl, Or.inr rfl, Or.inr rfl, Or.inl rfl, Or.inl rfl, trivial⟩) ?_
      exact p303_L254_ok d F a0 a1 ((p303_L236 F a0 a1 n)) (ih) F (hsL (h) (159) (v5).toNatClampNeg (9223372036854775807)) (w) (v5) (0) _ hp
set_option maxRecDepth 100000 in
set_option maxHeartbeats 4000000 in
theorem p303_L236_w (F : Nat) (a0 : Int32) (a1 : Int64) : ∀ (n : Nat) (h : HS) (w : WF h) (v5 : Int32) (r : Int64 × HS), p303_L236 F a0 a1 n h v5 = some r → WF r.2 := by
  intro n
  induction n with
  | zero => intro h w v5 r hp; cases hp
  | succ n ih =>
    intro h w v5 r hp
    unfold p303_L236 at hp
    by_cases hc27 : (v5) < (0 : Int32)
    · rw [if_pos hc27] at hp
      exact p303_L348_w F a0 a1 F (h) (w) (0) (0) _ hp
    · rw [if_neg hc27] at hp
      by_cases hg28 : (v5) < (0 : Int32) ∨ 512 ≤ (v5).toNatClampNeg
      · rw [if_pos hg28] at hp; cases hp
      rw [if_neg hg28] at hp
      exact p303_L254_w F a0 a1 ((p303_L236 F a0 a1 n)) (ih) F (hsL (h) (159) (v5).toNatClampNeg (9223372036854775807)) (w) (v5) (0) _ hp
set_option maxRecDepth 100000 in
set_option maxHeartbeats 4000000 in
theorem p303_L139_ok (d : Nat) (F : Nat) (a0 : Int32) (a1 : Int64) : ∀ (n : Nat) (h : HS) (w : WF h) (v4 : Int32) (r : Int64 × HS), p303_L139 F a0 a1 n h v4 = some r → ex (d + 1) 303 (139, [some (.ref (86)), some (.int (a0)), none, none, some (.int (v4)), none, none, none, none], [], h) = some (some (.long (r.1)), r.2) := by
  intro n
  induction n with
  | zero => intro h w v4 r hp; cases hp
  | succ n ih =>
    intro h w v4 r hp
    unfold p303_L139 at hp
    refine e_iload f303_139 rfl ?_
    refine e_iload_n f303_141 rfl ?_
    by_cases hc18 : (v4) < ((a0) : Int32)
    · rw [if_pos hc18] at hp
      refine e_icmp_ge_f f303_142 hc18 ?_
      refine e_iload f303_145 rfl ?_
      refine e_istore (ls2 := [some (.ref (86)), some (.int (a0)), none, none, some (.int (v4)), some (.int (v4)), none, none, none]) f303_147 (Nat.le_of_ble_eq_true rfl) rfl ?_
      refine ex_weak (ls := [some (.ref (86)), some (.int (a0)), none, none, some (.int (v4)), some (.int (v4)), none, none, none]) (le2_ok ⟨Or.inr rfl, Or.inr rfl, Or.inl rfl, Or.inl rfl, Or.inr rfl, Or.inr rfl, Or.inl rfl, Or.inl rfl, Or.inl rfl, trivial⟩) ?_
      exact p303_L149_ok d F a0 a1 ((p303_L139 F a0 a1 n)) (ih) F (h) (w) (v4) (v4) _ hp
    · rw [if_neg hc18] at hp
      refine e_icmp_ge_t f303_142 hc18 ?_
      refine e_iconst (v := 1) f303_215 (by decide) ?_
      refine e_iload_n f303_216 rfl ?_
      refine e_ishl f303_217 ?_
      refine e_iconst (v := 1) f303_218 (by decide) ?_
      refine e_isub f303_219 ?_
      refine e_istore (ls2 := [some (.ref (86)), some (.int (a0)), none, none, some (.int (((1) <<< ((a0) &&& 31)) - (1))), none, none, none, none]) f303_220 (Nat.le_of_ble_eq_true rfl) rfl ?_
      refine e_aload_n f303_222 rfl ?_
      refine e_getR f303_223 (WF.t w 86 (by decide)) rfl (WF.r (q := 159) w 86 98 (by decide)) ?_
      refine e_iload f303_226 rfl ?_
      refine e_lconst (v := 0) f303_228 (by decide) ?_
      by_cases hg19 : (((1) <<< ((a0) &&& 31)) - (1)) < (0 : Int32) ∨ 512 ≤ (((1) <<< ((a0) &&& 31)) - (1)).toNatClampNeg
      · rw [if_pos hg19] at hp; cases hp
      rw [if_neg hg19] at hp
      refine e_lastore f303_229 (WF.t w 159 (by decide)) (WF.n w 159 (by decide)) hg19 ?_
      refine e_iload f303_230 rfl ?_
      refine e_iconst (v := 1) f303_232 (by decide) ?_
      refine e_isub f303_233 ?_
      refine e_istore (ls2 := [some (.ref (86)), some (.int (a0)), none, none, some (.int (((1) <<< ((a0) &&& 31)) - (1))), some (.int ((((1) <<< ((a0) &&& 31)) - (1)) - (1))), none, none, none]) f303_234 (Nat.le_of_ble_eq_true rfl) rfl ?_
      refine ex_weak (ls := [some (.ref (86)), some (.int (a0)), none, none, none, some (.int ((((1) <<< ((a0) &&& 31)) - (1)) - (1))), none, none, none]) (le2_ok ⟨Or.inr rfl, Or.inr rfl, Or.inl rfl, Or.inl rfl, Or.inl rfl, Or.inr rfl, Or.inl rfl, Or.inl rfl, Or.inl rfl, trivial⟩) ?_
      exact p303_L236_ok d F a0 a1 F (hsL (h) (159) (((1) <<< ((a0) &&& 31)) - (1)).toNatClampNeg (0)) (w) ((((1) <<< ((a0) &&& 31)) - (1)) - (1)) _ hp
set_option maxRecDepth 100000 in
set_option maxHeartbeats 4000000 in
theorem p303_L139_w (F : Nat) (a0 : Int32) (a1 : Int64) : ∀ (n : Nat) (h : HS) (w : WF h) (v4 : Int32) (r : Int64 × HS), p303_L139 F a0 a1 n h v4 = some r → WF r.2 := by
  intro n
  induction n with
  | zero => intro h w v4 r hp; cases hp
  | succ n ih =>
    intro h w v4 r hp
    unfold p303_L139 at hp
    by_cases hc18 : (v4) < ((a0) : Int32)
    · rw [if_pos hc18] at hp
      exact p303_L149_w F a0 a1 ((p303_L139 F a0 a1 n)) (ih) F (h) (w) (v4) (v4) _ hp
    · rw [if_neg hc18] at hp
      by_cases hg19 : (((1) <<< ((a0) &&& 31)) - (1)) < (0 : Int32) ∨ 512 ≤ (((1) <<< ((a0) &&& 31)) - (1)).toNatClampNeg
      · rw [if_pos hg19] at hp; cases hp
      rw [if_neg hg19] at hp
      exact p303_L236_w F a0 a1 F (hsL (h) (159) (((1) <<< ((a0) &&& 31)) - (1)).toNatClampNeg (0)) (w) ((((1) <<< ((a0) &&& 31)) - (1)) - (1)) _ hp
set_option maxRecDepth 100000 in
set_option maxHeartbeats 4000000 in
theorem p303_L105_ok (d : Nat) (F : Nat) (a0 : Int32) (a1 : Int64) : ∀ (n : Nat) (h : HS) (w : WF h) (v4 : Int32) (r : Int64 × HS), p303_L105 F a0 a1 n h v4 = some r → ex (d + 1) 303 (105, [some (.ref (86)), some (.int (a0)), none, none, some (.int (v4)), none, none, none, none], [], h) = some (some (.long (r.1)), r.2) := by
  intro n
  induction n with
  | zero => intro h w v4 r hp; cases hp
  | succ n ih =>
    intro h w v4 r hp
    unfold p303_L105 at hp
    refine e_iload f303_105 rfl ?_
    refine e_aload_n f303_107 rfl ?_
    refine e_getI f303_108 (WF.t w 86 (by decide)) (by decide) ?_
    by_cases hc15 : (v4) < ((hI (h) (86) 91) : Int32)
    · rw [if_pos hc15] at hp
      refine e_icmp_ge_f f303_111 hc15 ?_
      refine e_aload_n f303_114 rfl ?_
      refine e_getR f303_115 (WF.t w 86 (by decide)) rfl (WF.r (q := 154) w 86 93 (by decide)) ?_
      refine e_iload f303_118 rfl ?_
      by_cases hg16 : (v4) < (0 : Int32) ∨ 12 ≤ (v4).toNatClampNeg
      · rw [if_pos hg16] at hp; cases hp
      rw [if_neg hg16] at hp
      refine e_iaload f303_120 (Or.inl (WF.t w 154 (by decide))) (WF.n w 154 (by decide)) hg16 ?_
      refine e_iload_n f303_121 rfl ?_
      refine e_ishr f303_122 ?_
      by_cases hc17 : ((hI (h) (154) (v4).toNatClampNeg) >>> ((a0) &&& 31)) = (0 : Int32)
      · rw [if_pos hc17] at hp
        refine e_if_eq_t f303_123 hc17 ?_
        refine e_iinc (ls2 := [some (.ref (86)), some (.int (a0)), none, none, some (.int ((v4) + 1)), none, none, none, none]) f303_130 (by decide) rfl rfl ?_
        refine e_goto f303_133 ?_
        refine ex_weak (ls := [some (.ref (86)), some (.int (a0)), none, none, some (.int ((v4) + 1)), none, none, none, none]) (le2_ok ⟨Or.inr rfl, Or.inr rfl, Or.inl rfl, Or.inl rfl, Or.inr rfl, Or.inl rfl, Or.inl rfl, Or.inl rfl, Or.inl rfl, trivial⟩) ?_
        exact ih (h) (w) ((v4) + 1) _ hp
      · rw [if_neg hc17] at hp
        refine e_if_eq_f f303_123 hc17 ?_
        refine e_ldc2 (v := -1) f303_126 (by decide) ?_
        have hp := Option.some.inj hp
        subst hp
        exact e_lreturn f303_129
    · rw [if_neg hc15] at hp
      refine e_icmp_ge_t f303_111 hc15 ?_
      refine e_iconst (v := 0) f303_136 (by decide) ?_
      refine e_istore (ls2 := [some (.ref (86)), some (.int (a0)), none, none, some (.int (0)), none, none, none, none]) f303_137 (Nat.le_of_ble_eq_true rfl) rfl ?_
      refine ex_weak (ls := [some (.ref (86)), some (.int (a0)), none, none, some (.int (0)), none, none, none, none]) (le2_ok ⟨Or.inr rfl, Or.inr rfl, Or.inl rfl, Or.inl rfl, Or.inr rfl, Or.inl rfl, Or.inl rfl, Or.inl rfl, Or.inl rfl, trivial⟩) ?_
      exact p303_L139_ok d F a0 a1 F (h) (w) (0) _ hp
set_option maxRecDepth 100000 in
set_option maxHeartbeats 4000000 in
theorem p303_L105_w (F : Nat) (a0 : Int32) (a1 : Int64) : ∀ (n : Nat) (h : HS) (w : WF h) (v4 : Int32) (r : Int64 × HS), p303_L105 F a0 a1 n h v4 = some r → WF r.2 := by
  intro n
  induction n with
  | zero => intro h w v4 r hp; cases hp
  | succ n ih =>
    intro h w v4 r hp
    unfold p303_L105 at hp
    by_cases hc15 : (v4) < ((hI (h) (86) 91) : Int32)
    · rw [if_pos hc15] at hp
      by_cases hg16 : (v4) < (0 : Int32) ∨ 12 ≤ (v4).toNatClampNeg
      · rw [if_pos hg16] at hp; cases hp
      rw [if_neg hg16] at hp
      by_cases hc17 : ((hI (h) (154) (v4).toNatClampNeg) >>> ((a0) &&& 31)) = (0 : Int32)
      · rw [if_pos hc17] at hp
        exact ih (h) (w) ((v4) + 1) _ hp
      · rw [if_neg hc17] at hp
        have hp := Option.some.inj hp
        subst hp
        exact (w)
    · rw [if_neg hc15] at hp
      exact p303_L139_w F a0 a1 F (h) (w) (0) _ hp
set_option maxRecDepth 100000 in
set_option maxHeartbeats 4000000 in
theorem p303_L17_ok (d : Nat) (F : Nat) (a0 : Int32) (a1 : Int64) : ∀ (n : Nat) (h : HS) (w : WF h) (v4 : Int32) (r : Int64 × HS), p303_L17 F a0 a1 n h v4 = some r → ex (d + 1) 303 (17, [some (.ref (86)), some (.int (a0)), some (.long (a1)), none, some (.int (v4)), none, none, none, none], [], h) = some (some (.long (r.1)), r.2) := by
  intro n
  induction n with
  | zero => intro h w v4 r hp; cases hp
  | succ n ih =>
    intro h w v4 r hp
    unfold p303_L17 at hp
    refine e_iload f303_17 rfl ?_
    refine e_iload_n f303_19 rfl ?_
    by_cases hc4 : (v4) < ((a0) : Int32)
    · rw [if_pos hc4] at hp
      refine e_icmp_ge_f f303_20 hc4 ?_
      refine e_aload_n f303_23 rfl ?_
      refine e_getR f303_24 (WF.t w 86 (by decide)) rfl (WF.r (q := 156) w 86 95 (by decide)) ?_
      refine e_iload f303_27 rfl ?_
      refine e_lload_n f303_29 rfl ?_
      refine e_iconst (v := 5) f303_30 (by decide) ?_
      refine e_iload f303_31 rfl ?_
      refine e_imul f303_33 ?_
      refine e_lshr f303_34 ?_
      refine e_ldc2 (v := 31) f303_35 (by decide) ?_
      refine e_land f303_38 ?_
      refine e_l2i f303_39 ?_
      by_cases hg5 : (v4) < (0 : Int32) ∨ 9 ≤ (v4).toNatClampNeg
      · rw [if_pos hg5] at hp; cases hp
      rw [if_neg hg5] at hp
      refine e_iastore f303_40 (WF.t w 156 (by decide)) (WF.n w 156 (by decide)) hg5 ?_
      obtain ⟨h6, e7, hp⟩ := bind_some hp
      try dsimp only at hp
      have e7 := Option.some.inj e7
      have w8 : WF h6 := e7 ▸ w
      rw [e7]
      refine e_aload_n f303_41 rfl ?_
      refine e_getR f303_42 (WF.t w8 86 (by decide)) rfl (WF.r (q := 156) w8 86 95 (by decide)) ?_
      refine e_iload f303_45 rfl ?_
      by_cases hg9 : (v4) < (0 : Int32) ∨ 9 ≤ (v4).toNatClampNeg
      · rw [if_pos hg9] at hp; cases hp
      rw [if_neg hg9] at hp
      refine e_iaload f303_47 (Or.inl (WF.t w8 156 (by decide))) (WF.n w8 156 (by decide)) hg9 ?_
      refine e_aload_n f303_48 rfl ?_
      refine e_getI f303_49 (WF.t w8 86 (by decide)) (by decide) ?_
      by_cases hc10 : (hI (h6) (156) (v4).toNatClampNeg) < ((hI (h6) (86) 2) : Int32)
      · rw [if_pos hc10] at hp
        refine e_icmp_lt_t f303_52 hc10 ?_
        refine e_iconst (v := 0) f303_59 (by decide) ?_
        refine e_istore (ls2 := [some (.ref (86)), some (.int (a0)), some (.long (a1)), none, some (.int (v4)), some (.int (0)), none, none, none]) f303_60 (Nat.le_of_ble_eq_true rfl) rfl ?_
        refine ex_weak (ls := [some (.ref (86)), some (.int (a0)), some (.long (a1)), none, some (.int (v4)), some (.int (0)), none, none, none]) (le2_ok ⟨Or.inr rfl, Or.inr rfl, Or.inr rfl, Or.inl rfl, Or.inr rfl, Or.inr rfl, Or.inl rfl, Or.inl rfl, Or.inl rfl, trivial⟩) ?_
        exact p303_L62_ok d F a0 a1 ((p303_L17 F a0 a1 n)) (ih) F (h6) (w8) (v4) (0) _ hp
      · rw [if_neg hc10] at hp
        refine e_icmp_lt_f f303_52 hc10 ?_
        refine e_ldc2 (v := -1) f303_55 (by decide) ?_
        have hp := Option.some.inj hp
        subst hp
        exact e_lreturn f303_58
    · rw [if_neg hc4] at hp
      refine e_icmp_ge_t f303_20 hc4 ?_
      refine e_iconst (v := 0) f303_102 (by decide) ?_
      refine e_istore (ls2 := [some (.ref (86)), some (.int (a0)), some (.long (a1)), none, some (.int (0)), none, none, none, none]) f303_103 (Nat.le_of_ble_eq_true rfl) rfl ?_
      refine ex_weak (ls := [some (.ref (86)), some (.int (a0)), none, none, some (.int (0)), none, none, none, none]) (le2_ok ⟨Or.inr rfl, Or.inr rfl, Or.inl rfl, Or.inl rfl, Or.inr rfl, Or.inl rfl, Or.inl rfl, Or.inl rfl, Or.inl rfl, trivial⟩) ?_
      exact p303_L105_ok d F a0 a1 F (h) (w) (0) _ hp
set_option maxRecDepth 100000 in
set_option maxHeartbeats 4000000 in
theorem p303_L17_w (F : Nat) (a0 : Int32) (a1 : Int64) : ∀ (n : Nat) (h : HS) (w : WF h) (v4 : Int32) (r : Int64 × HS), p303_L17 F a0 a1 n h v4 = some r → WF r.2 := by
  intro n
  induction n with
  | zero => intro h w v4 r hp; cases hp
  | succ n ih =>
    intro h w v4 r hp
    unfold p303_L17 at hp
    by_cases hc4 : (v4) < ((a0) : Int32)
    · rw [if_pos hc4] at hp
      by_cases hg5 : (v4) < (0 : Int32) ∨ 9 ≤ (v4).toNatClampNeg
      · rw [if_pos hg5] at hp; cases hp
      rw [if_neg hg5] at hp
      obtain ⟨h6, e7, hp⟩ := bind_some hp
      try dsimp only at hp
      have e7 := Option.some.inj e7
      have w8 : WF h6 := e7 ▸ w
      by_cases hg9 : (v4) < (0 : Int32) ∨ 9 ≤ (v4).toNatClampNeg
      · rw [if_pos hg9] at hp; cases hp
      rw [if_neg hg9] at hp
      by_cases hc10 : (hI (h6) (156) (v4).toNatClampNeg) < ((hI (h6) (86) 2) : Int32)
      · rw [if_pos hc10] at hp
        exact p303_L62_w F a0 a1 ((p303_L17 F a0 a1 n)) (ih) F (h6) (w8) (v4) (0) _ hp
      · rw [if_neg hc10] at hp
        have hp := Option.some.inj hp
        subst hp
        exact (w8)
    · rw [if_neg hc4] at hp
      exact p303_L105_w F a0 a1 F (h) (w) (0) _ hp
set_option maxRecDepth 100000 in
set_option maxHeartbeats 4000000 in
theorem p303_ok (d : Nat) (F : Nat) (h : HS) (w : WF h) (a0 : Int32) (a1 : Int64) (r : Int64 × HS) (hp : p303 F h a0 a1 = some r) : ex (d + 1) 303 (ent 303 [.ref (86), .int (a0), .long (a1)] h) = some (some (.long (r.1)), r.2) := by
  rw [show ent 303 [.ref (86), .int (a0), .long (a1)] h = (0, [some (.ref (86)), some (.int (a0)), some (.long (a1)), none, none, none, none, none, none], [], h) from by  rfl]
  refine ex_weak (ls := [some (.ref (86)), some (.int (a0)), some (.long (a1)), none, none, none, none, none, none]) (le2_ok ⟨Or.inr rfl, Or.inr rfl, Or.inr rfl, Or.inr rfl, Or.inr rfl, Or.inr rfl, Or.inr rfl, Or.inr rfl, Or.inr rfl, trivial⟩) ?_
  unfold p303 at hp
  refine e_iload_n f303_0 rfl ?_
  refine e_iconst (v := 1) f303_1 (by decide) ?_
  refine e_bipush (v := 9) f303_2 (by decide) ?_
  obtain ⟨r1, hr2, hp⟩ := bind_some hp
  try dsimp only at hp
  refine e_callS (st := []) (as := [.int (a0), .int (1), .int (9)]) f303_4 (by decide) rfl rfl (Nat.le_of_ble_eq_true rfl) (Nat.le_of_ble_eq_true rfl) (p187_ok d (h) w (a0) (1) (9) r1 hr2) ?_
  show ex _ 303 (7, [some (.ref (86)), some (.int (a0)), some (.long (a1)), none, none, none, none, none, none], [.int (r1)], h) = _
  by_cases hc3 : (r1) = (0 : Int32)
  · rw [if_pos hc3] at hp
    refine e_if_ne_f f303_7 hc3 ?_
    refine e_ldc2 (v := -1) f303_10 (by decide) ?_
    have hp := Option.some.inj hp
    subst hp
    exact e_lreturn f303_13
  · rw [if_neg hc3] at hp
    refine e_if_ne_t f303_7 hc3 ?_
    refine e_iconst (v := 0) f303_14 (by decide) ?_
    refine e_istore (ls2 := [some (.ref (86)), some (.int (a0)), some (.long (a1)), none, some (.int (0)), none, none, none, none]) f303_15 (Nat.le_of_ble_eq_true rfl) rfl ?_
    refine ex_weak (ls := [some (.ref (86)), some (.int (a0)), some (.long (a1)), none, some (.int (0)), none, none, none, none]) (le2_ok ⟨Or.inr rfl, Or.inr rfl, Or.inr rfl, Or.inl rfl, Or.inr rfl, Or.inl rfl, Or.inl rfl, Or.inl rfl, Or.inl rfl, trivial⟩) ?_
    exact p303_L17_ok d F a0 a1 F (h) (w) (0) _ hp
set_option maxRecDepth 100000 in
set_option maxHeartbeats 4000000 in
theorem p303_w (F : Nat) (h : HS) (w : WF h) (a0 : Int32) (a1 : Int64) (r : Int64 × HS) (hp : p303 F h a0 a1 = some r) : WF r.2 := by
  unfold p303 at hp
  obtain ⟨r1, hr2, hp⟩ := bind_some hp
  try dsimp only at hp
  by_cases hc3 : (r1) = (0 : Int32)
  · rw [if_pos hc3] at hp
    have hp := Option.some.inj hp
    subst hp
    exact (w)
  · rw [if_neg hc3] at hp
    exact p303_L17_w F a0 a1 F (h) (w) (0) _ hp
theorem f304_0 : fetch 304 0 = some (.iload_n 1, 0, 0, 0) := rfl
theorem f304_1 : fetch 304 1 = some (.iconst 0, 0, 0, 0) := rfl
theorem f304_2 : fetch 304 2 = some (.aload_n 0, 0, 0, 0) := rfl
theorem f304_3 : fetch 304 3 = some (.getfield 605, 12, 92, 0) := rfl
theorem f304_6 : fetch 304 6 = some (.iconst 1, 0, 0, 0) := rfl
theorem f304_7 : fetch 304 7 = some (.isub, 0, 0, 0) := rfl
theorem f304_8 : fetch 304 8 = some (.invokestatic 240, 187, 3, 1) := rfl
theorem f304_11 : fetch 304 11 = some (.ifCond .eq 12, 23, 0, 0) := rfl
theorem f304_14 : fetch 304 14 = some (.aload_n 0, 0, 0, 0) := rfl
theorem f304_15 : fetch 304 15 = some (.getfield 231, 12, 97, 2) := rfl
theorem f304_18 : fetch 304 18 = some (.iload_n 1, 0, 0, 0) := rfl
theorem f304_19 : fetch 304 19 = some (.iaload, 0, 0, 0) := rfl
theorem f304_20 : fetch 304 20 = some (.goto 4, 24, 0, 0) := rfl
theorem f304_23 : fetch 304 23 = some (.iconst (-1), 0, 0, 0) := rfl
theorem f304_24 : fetch 304 24 = some (.ireturn, 0, 0, 0) := rfl
set_option maxRecDepth 100000 in
set_option maxHeartbeats 4000000 in
theorem p304_ok (d : Nat) (h : HS) (w : WF h) (a0 : Int32) (r : Int32) (hp : p304 h a0 = some r) : ex (d + 1) 304 (ent 304 [.ref (86), .int (a0)] h) = some (some (.int (r)), h) := by
  rw [show ent 304 [.ref (86), .int (a0)] h = (0, [some (.ref (86)), some (.int (a0))], [], h) from by  rfl]
  refine ex_weak (ls := [some (.ref (86)), some (.int (a0))]) (le2_ok ⟨Or.inr rfl, Or.inr rfl, trivial⟩) ?_
  unfold p304 at hp
  refine e_iload_n f304_0 rfl ?_
  refine e_iconst (v := 0) f304_1 (by decide) ?_
  refine e_aload_n f304_2 rfl ?_
  refine e_getI f304_3 (WF.t w 86 (by decide)) (by decide) ?_
  refine e_iconst (v := 1) f304_6 (by decide) ?_
  refine e_isub f304_7 ?_
  obtain ⟨r1, hr2, hp⟩ := bind_some hp
  try dsimp only at hp
  refine e_callS (st := []) (as := [.int (a0), .int (0), .int ((hI (h) (86) 92) - (1))]) f304_8 (by decide) rfl rfl (Nat.le_of_ble_eq_true rfl) (Nat.le_of_ble_eq_true rfl) (p187_ok d (h) w (a0) (0) ((hI (h) (86) 92) - (1)) r1 hr2) ?_
  show ex _ 304 (11, [some (.ref (86)), some (.int (a0))], [.int (r1)], h) = _
  by_cases hc3 : (r1) = (0 : Int32)
  · rw [if_pos hc3] at hp
    refine e_if_eq_t f304_11 hc3 ?_
    refine e_iconst (v := -1) f304_23 (by decide) ?_
    have hp := Option.some.inj hp
    subst hp
    exact e_ireturn f304_24 (Or.inl rfl)
  · rw [if_neg hc3] at hp
    refine e_if_eq_f f304_11 hc3 ?_
    refine e_aload_n f304_14 rfl ?_
    refine e_getR f304_15 (WF.t w 86 (by decide)) rfl (WF.r (q := 158) w 86 97 (by decide)) ?_
    refine e_iload_n f304_18 rfl ?_
    by_cases hg4 : (a0) < (0 : Int32) ∨ 9 ≤ (a0).toNatClampNeg
    · rw [if_pos hg4] at hp; cases hp
    rw [if_neg hg4] at hp
    refine e_iaload f304_19 (Or.inl (WF.t w 158 (by decide))) (WF.n w 158 (by decide)) hg4 ?_
    refine e_goto f304_20 ?_
    have hp := Option.some.inj hp
    subst hp
    exact e_ireturn f304_24 (Or.inl rfl)
theorem f305_0 : fetch 305 0 = some (.iconst 0, 0, 0, 0) := rfl
theorem f305_1 : fetch 305 1 = some (.istore_n 2, 0, 0, 0) := rfl
theorem f305_2 : fetch 305 2 = some (.iload_n 1, 0, 0, 0) := rfl
theorem f305_3 : fetch 305 3 = some (.tableswitch 219 0 15 #[77, 82, 87, 92, 128, 133, 138, 143, 148, 153, 158, 163, 168, 204, 209, 214], 0, 0, 0) := rfl
theorem f305_80 : fetch 305 80 = some (.aload_n 0, 0, 0, 0) := rfl
theorem f305_81 : fetch 305 81 = some (.getfield 244, 12, 1, 0) := rfl
theorem f305_84 : fetch 305 84 = some (.ireturn, 0, 0, 0) := rfl
theorem f305_85 : fetch 305 85 = some (.aload_n 0, 0, 0, 0) := rfl
theorem f305_86 : fetch 305 86 = some (.getfield 247, 12, 2, 0) := rfl
theorem f305_89 : fetch 305 89 = some (.ireturn, 0, 0, 0) := rfl
theorem f305_90 : fetch 305 90 = some (.aload_n 0, 0, 0, 0) := rfl
theorem f305_91 : fetch 305 91 = some (.getfield 250, 12, 3, 0) := rfl
theorem f305_94 : fetch 305 94 = some (.ireturn, 0, 0, 0) := rfl
theorem f305_95 : fetch 305 95 = some (.iconst 0, 0, 0, 0) := rfl
theorem f305_96 : fetch 305 96 = some (.istore_n 3, 0, 0, 0) := rfl
theorem f305_97 : fetch 305 97 = some (.iload_n 3, 0, 0, 0) := rfl
theorem f305_98 : fetch 305 98 = some (.aload_n 0, 0, 0, 0) := rfl
theorem f305_99 : fetch 305 99 = some (.getfield 250, 12, 3, 0) := rfl
theorem f305_102 : fetch 305 102 = some (.if_icmp .ge 27, 129, 0, 0) := rfl
theorem f305_105 : fetch 305 105 = some (.iload_n 2, 0, 0, 0) := rfl
theorem f305_106 : fetch 305 106 = some (.aload_n 0, 0, 0, 0) := rfl
theorem f305_107 : fetch 305 107 = some (.getfield 22, 12, 8, 2) := rfl
theorem f305_110 : fetch 305 110 = some (.iload_n 3, 0, 0, 0) := rfl
theorem f305_111 : fetch 305 111 = some (.iaload, 0, 0, 0) := rfl
theorem f305_112 : fetch 305 112 = some (.iconst (-1), 0, 0, 0) := rfl
theorem f305_113 : fetch 305 113 = some (.if_icmp .ne 7, 120, 0, 0) := rfl
theorem f305_116 : fetch 305 116 = some (.iconst 1, 0, 0, 0) := rfl
theorem f305_117 : fetch 305 117 = some (.goto 4, 121, 0, 0) := rfl
theorem f305_120 : fetch 305 120 = some (.iconst 0, 0, 0, 0) := rfl
theorem f305_121 : fetch 305 121 = some (.iadd, 0, 0, 0) := rfl
theorem f305_122 : fetch 305 122 = some (.istore_n 2, 0, 0, 0) := rfl
theorem f305_123 : fetch 305 123 = some (.iinc 3 1, 0, 0, 0) := rfl
theorem f305_126 : fetch 305 126 = some (.goto (-29), 97, 0, 0) := rfl
theorem f305_129 : fetch 305 129 = some (.iload_n 2, 0, 0, 0) := rfl
theorem f305_130 : fetch 305 130 = some (.ireturn, 0, 0, 0) := rfl
theorem f305_131 : fetch 305 131 = some (.aload_n 0, 0, 0, 0) := rfl
theorem f305_132 : fetch 305 132 = some (.getfield 287, 12, 14, 0) := rfl
theorem f305_135 : fetch 305 135 = some (.ireturn, 0, 0, 0) := rfl
theorem f305_136 : fetch 305 136 = some (.aload_n 0, 0, 0, 0) := rfl
theorem f305_137 : fetch 305 137 = some (.getfield 314, 12, 20, 0) := rfl
theorem f305_140 : fetch 305 140 = some (.ireturn, 0, 0, 0) := rfl
theorem f305_141 : fetch 305 141 = some (.aload_n 0, 0, 0, 0) := rfl
theorem f305_142 : fetch 305 142 = some (.getfield 317, 12, 21, 0) := rfl
theorem f305_145 : fetch 305 145 = some (.ireturn, 0, 0, 0) := rfl
theorem f305_146 : fetch 305 146 = some (.aload_n 0, 0, 0, 0) := rfl
theorem f305_147 : fetch 305 147 = some (.getfield 326, 12, 31, 0) := rfl
theorem f305_150 : fetch 305 150 = some (.ireturn, 0, 0, 0) := rfl
theorem f305_151 : fetch 305 151 = some (.aload_n 0, 0, 0, 0) := rfl
theorem f305_152 : fetch 305 152 = some (.getfield 304, 12, 32, 0) := rfl
theorem f305_155 : fetch 305 155 = some (.ireturn, 0, 0, 0) := rfl
theorem f305_156 : fetch 305 156 = some (.aload_n 0, 0, 0, 0) := rfl
theorem f305_157 : fetch 305 157 = some (.getfield 307, 12, 33, 0) := rfl
theorem f305_160 : fetch 305 160 = some (.ireturn, 0, 0, 0) := rfl
theorem f305_161 : fetch 305 161 = some (.aload_n 0, 0, 0, 0) := rfl
theorem f305_162 : fetch 305 162 = some (.getfield 424, 12, 58, 0) := rfl
theorem f305_165 : fetch 305 165 = some (.ireturn, 0, 0, 0) := rfl
theorem f305_166 : fetch 305 166 = some (.aload_n 0, 0, 0, 0) := rfl
theorem f305_167 : fetch 305 167 = some (.getfield 542, 12, 72, 0) := rfl
theorem f305_170 : fetch 305 170 = some (.ireturn, 0, 0, 0) := rfl
theorem f305_171 : fetch 305 171 = some (.iconst 0, 0, 0, 0) := rfl
theorem f305_172 : fetch 305 172 = some (.istore_n 3, 0, 0, 0) := rfl
theorem f305_173 : fetch 305 173 = some (.iload_n 3, 0, 0, 0) := rfl
theorem f305_174 : fetch 305 174 = some (.aload_n 0, 0, 0, 0) := rfl
theorem f305_175 : fetch 305 175 = some (.getfield 542, 12, 72, 0) := rfl
theorem f305_178 : fetch 305 178 = some (.if_icmp .ge 27, 205, 0, 0) := rfl
theorem f305_181 : fetch 305 181 = some (.iload_n 2, 0, 0, 0) := rfl
theorem f305_182 : fetch 305 182 = some (.aload_n 0, 0, 0, 0) := rfl
theorem f305_183 : fetch 305 183 = some (.getfield 182, 12, 78, 2) := rfl
theorem f305_186 : fetch 305 186 = some (.iload_n 3, 0, 0, 0) := rfl
theorem f305_187 : fetch 305 187 = some (.iaload, 0, 0, 0) := rfl
theorem f305_188 : fetch 305 188 = some (.iconst (-1), 0, 0, 0) := rfl
theorem f305_189 : fetch 305 189 = some (.if_icmp .ne 7, 196, 0, 0) := rfl
theorem f305_192 : fetch 305 192 = some (.iconst 0, 0, 0, 0) := rfl
theorem f305_193 : fetch 305 193 = some (.goto 4, 197, 0, 0) := rfl
theorem f305_196 : fetch 305 196 = some (.iconst 1, 0, 0, 0) := rfl
theorem f305_197 : fetch 305 197 = some (.iadd, 0, 0, 0) := rfl
theorem f305_198 : fetch 305 198 = some (.istore_n 2, 0, 0, 0) := rfl
theorem f305_199 : fetch 305 199 = some (.iinc 3 1, 0, 0, 0) := rfl
theorem f305_202 : fetch 305 202 = some (.goto (-29), 173, 0, 0) := rfl
theorem f305_205 : fetch 305 205 = some (.iload_n 2, 0, 0, 0) := rfl
theorem f305_206 : fetch 305 206 = some (.ireturn, 0, 0, 0) := rfl
theorem f305_207 : fetch 305 207 = some (.aload_n 0, 0, 0, 0) := rfl
theorem f305_208 : fetch 305 208 = some (.getfield 580, 12, 85, 0) := rfl
theorem f305_211 : fetch 305 211 = some (.ireturn, 0, 0, 0) := rfl
theorem f305_212 : fetch 305 212 = some (.aload_n 0, 0, 0, 0) := rfl
theorem f305_213 : fetch 305 213 = some (.getfield 374, 12, 52, 0) := rfl
theorem f305_216 : fetch 305 216 = some (.ireturn, 0, 0, 0) := rfl
theorem f305_217 : fetch 305 217 = some (.aload_n 0, 0, 0, 0) := rfl
theorem f305_218 : fetch 305 218 = some (.getfield 592, 12, 91, 0) := rfl
theorem f305_221 : fetch 305 221 = some (.ireturn, 0, 0, 0) := rfl
theorem f305_222 : fetch 305 222 = some (.iconst (-1), 0, 0, 0) := rfl
theorem f305_223 : fetch 305 223 = some (.ireturn, 0, 0, 0) := rfl
set_option maxRecDepth 100000 in
set_option maxHeartbeats 4000000 in
theorem p305_j121_ok (d : Nat) (F : Nat) (a0 : Int32) (K97 : Int32 → Int32 → Option (Int32)) (h : HS) (w : WF h) (hK97 : ∀ (u2 : Int32) (u3 : Int32) (r : Int32), K97 u2 u3 = some r → ex (d + 0) 305 (97, [some (.ref (86)), none, some (.int (u2)), some (.int (u3))], [], h) = some (some (.int (r)), h)) (v3 : Int32) (s0 : Int32) (s1 : Int32) (r : Int32) (hp : p305_j121 F a0 K97 h v3 s0 s1 = some r) : ex (d + 0) 305 (121, [some (.ref (86)), none, none, some (.int (v3))], [.int (s0), .int (s1)], h) = some (some (.int (r)), h) := by
  unfold p305_j121 at hp
  refine e_iadd f305_121 ?_
  refine e_istore_n (ls2 := [some (.ref (86)), none, some (.int ((s1) + (s0))), some (.int (v3))]) f305_122 (Nat.le_of_ble_eq_true rfl) rfl ?_
  refine e_iinc (ls2 := [some (.ref (86)), none, some (.int ((s1) + (s0))), some (.int ((v3) + 1))]) f305_123 (by decide) rfl rfl ?_
  refine e_goto f305_126 ?_
  refine ex_weak (ls := [some (.ref (86)), none, some (.int ((s1) + (s0))), some (.int ((v3) + 1))]) (le2_ok ⟨Or.inr rfl, Or.inl rfl, Or.inr rfl, Or.inr rfl, trivial⟩) ?_
  exact hK97 ((s1) + (s0)) ((v3) + 1) _ hp
set_option maxRecDepth 100000 in
set_option maxHeartbeats 4000000 in
theorem p305_j197_ok (d : Nat) (F : Nat) (a0 : Int32) (K173 : Int32 → Int32 → Option (Int32)) (h : HS) (w : WF h) (hK173 : ∀ (u2 : Int32) (u3 : Int32) (r : Int32), K173 u2 u3 = some r → ex (d + 0) 305 (173, [some (.ref (86)), none, some (.int (u2)), some (.int (u3))], [], h) = some (some (.int (r)), h)) (v3 : Int32) (s0 : Int32) (s1 : Int32) (r : Int32) (hp : p305_j197 F a0 K173 h v3 s0 s1 = some r) : ex (d + 0) 305 (197, [some (.ref (86)), none, none, some (.int (v3))], [.int (s0), .int (s1)], h) = some (some (.int (r)), h) := by
  unfold p305_j197 at hp
  refine e_iadd f305_197 ?_
  refine e_istore_n (ls2 := [some (.ref (86)), none, some (.int ((s1) + (s0))), some (.int (v3))]) f305_198 (Nat.le_of_ble_eq_true rfl) rfl ?_
  refine e_iinc (ls2 := [some (.ref (86)), none, some (.int ((s1) + (s0))), some (.int ((v3) + 1))]) f305_199 (by decide) rfl rfl ?_
  refine e_goto f305_202 ?_
  refine ex_weak (ls := [some (.ref (86)), none, some (.int ((s1) + (s0))), some (.int ((v3) + 1))]) (le2_ok ⟨Or.inr rfl, Or.inl rfl, Or.inr rfl, Or.inr rfl, trivial⟩) ?_
  exact hK173 ((s1) + (s0)) ((v3) + 1) _ hp
set_option maxRecDepth 100000 in
set_option maxHeartbeats 4000000 in
theorem p305_L173_ok (d : Nat) (F : Nat) (a0 : Int32) (h : HS) (w : WF h)  : ∀ (n : Nat) (v2 : Int32) (v3 : Int32) (r : Int32), p305_L173 F a0 n h v2 v3 = some r → ex (d + 0) 305 (173, [some (.ref (86)), none, some (.int (v2)), some (.int (v3))], [], h) = some (some (.int (r)), h) := by
  intro n
  induction n with
  | zero => intro v2 v3 r hp; cases hp
  | succ n ih =>
    intro v2 v3 r hp
    unfold p305_L173 at hp
    refine e_iload_n f305_173 rfl ?_
    refine e_aload_n f305_174 rfl ?_
    refine e_getI f305_175 (WF.t w 86 (by decide)) (by decide) ?_
    by_cases hc21 : (v3) < ((hI (h) (86) 72) : Int32)
    · rw [if_pos hc21] at hp
      refine e_icmp_ge_f f305_178 hc21 ?_
      refine e_iload_n f305_181 rfl ?_
      refine e_aload_n f305_182 rfl ?_
      refine e_getR f305_183 (WF.t w 86 (by decide)) rfl (WF.r (q := 142) w 86 78 (by decide)) ?_
      refine e_iload_n f305_186 rfl ?_
      by_cases hg22 : (v3) < (0 : Int32) ∨ 30 ≤ (v3).toNatClampNeg
      · rw [if_pos hg22] at hp; cases hp
      rw [if_neg hg22] at hp
      refine e_iaload f305_187 (Or.inl (WF.t w 142 (by decide))) (WF.n w 142 (by decide)) hg22 ?_
      refine e_iconst (v := -1) f305_188 (by decide) ?_
      by_cases hc23 : (hI (h) (142) (v3).toNatClampNeg) = (((-1)) : Int32)
      · rw [if_pos hc23] at hp
        refine e_icmp_ne_f f305_189 hc23 ?_
        refine e_iconst (v := 0) f305_192 (by decide) ?_
        refine e_goto f305_193 ?_
        refine ex_weak (ls := [some (.ref (86)), none, none, some (.int (v3))]) (le2_ok ⟨Or.inr rfl, Or.inl rfl, Or.inl rfl, Or.inr rfl, trivial⟩) ?_
        exact p305_j197_ok d F a0 ((p305_L173 F a0 n h)) (h) (w) (ih) (v3) (0) (v2) _ hp
      · rw [if_neg hc23] at hp
        refine e_icmp_ne_t f305_189 hc23 ?_
        refine e_iconst (v := 1) f305_196 (by decide) ?_
        refine ex_weak (ls := [some (.ref (86)), none, none, some (.int (v3))]) (le2_ok ⟨Or.inr rfl, Or.inl rfl, Or.inl rfl, Or.inr rfl, trivial⟩) ?_
        exact p305_j197_ok d F a0 ((p305_L173 F a0 n h)) (h) (w) (ih) (v3) (1) (v2) _ hp
    · rw [if_neg hc21] at hp
      refine e_icmp_ge_t f305_178 hc21 ?_
      refine e_iload_n f305_205 rfl ?_
      have hp := Option.some.inj hp
      subst hp
      exact e_ireturn f305_206 (Or.inl rfl)
set_option maxRecDepth 100000 in
set_option maxHeartbeats 4000000 in
theorem p305_L97_ok (d : Nat) (F : Nat) (a0 : Int32) (h : HS) (w : WF h)  : ∀ (n : Nat) (v2 : Int32) (v3 : Int32) (r : Int32), p305_L97 F a0 n h v2 v3 = some r → ex (d + 0) 305 (97, [some (.ref (86)), none, some (.int (v2)), some (.int (v3))], [], h) = some (some (.int (r)), h) := by
  intro n
  induction n with
  | zero => intro v2 v3 r hp; cases hp
  | succ n ih =>
    intro v2 v3 r hp
    unfold p305_L97 at hp
    refine e_iload_n f305_97 rfl ?_
    refine e_aload_n f305_98 rfl ?_
    refine e_getI f305_99 (WF.t w 86 (by decide)) (by decide) ?_
    by_cases hc18 : (v3) < ((hI (h) (86) 3) : Int32)
    · rw [if_pos hc18] at hp
      refine e_icmp_ge_f f305_102 hc18 ?_
      refine e_iload_n f305_105 rfl ?_
      refine e_aload_n f305_106 rfl ?_
      refine e_getR f305_107 (WF.t w 86 (by decide)) rfl (WF.r (q := 91) w 86 8 (by decide)) ?_
      refine e_iload_n f305_110 rfl ?_
      by_cases hg19 : (v3) < (0 : Int32) ∨ 200 ≤ (v3).toNatClampNeg
      · rw [if_pos hg19] at hp; cases hp
      rw [if_neg hg19] at hp
      refine e_iaload f305_111 (Or.inl (WF.t w 91 (by decide))) (WF.n w 91 (by decide)) hg19 ?_
      refine e_iconst (v := -1) f305_112 (by decide) ?_
      by_cases hc20 : (hI (h) (91) (v3).toNatClampNeg) = (((-1)) : Int32)
      · rw [if_pos hc20] at hp
        refine e_icmp_ne_f f305_113 hc20 ?_
        refine e_iconst (v := 1) f305_116 (by decide) ?_
        refine e_goto f305_117 ?_
        refine ex_weak (ls := [some (.ref (86)), none, none, some (.int (v3))]) (le2_ok ⟨Or.inr rfl, Or.inl rfl, Or.inl rfl, Or.inr rfl, trivial⟩) ?_
        exact p305_j121_ok d F a0 ((p305_L97 F a0 n h)) (h) (w) (ih) (v3) (1) (v2) _ hp
      · rw [if_neg hc20] at hp
        refine e_icmp_ne_t f305_113 hc20 ?_
        refine e_iconst (v := 0) f305_120 (by decide) ?_
        refine ex_weak (ls := [some (.ref (86)), none, none, some (.int (v3))]) (le2_ok ⟨Or.inr rfl, Or.inl rfl, Or.inl rfl, Or.inr rfl, trivial⟩) ?_
        exact p305_j121_ok d F a0 ((p305_L97 F a0 n h)) (h) (w) (ih) (v3) (0) (v2) _ hp
    · rw [if_neg hc18] at hp
      refine e_icmp_ge_t f305_102 hc18 ?_
      refine e_iload_n f305_129 rfl ?_
      have hp := Option.some.inj hp
      subst hp
      exact e_ireturn f305_130 (Or.inl rfl)
set_option maxRecDepth 100000 in
set_option maxHeartbeats 4000000 in
theorem p305_ok (d : Nat) (F : Nat) (h : HS) (w : WF h) (a0 : Int32) (r : Int32) (hp : p305 F h a0 = some r) : ex (d + 0) 305 (ent 305 [.ref (86), .int (a0)] h) = some (some (.int (r)), h) := by
  rw [show ent 305 [.ref (86), .int (a0)] h = (0, [some (.ref (86)), some (.int (a0)), none, none], [], h) from by  rfl]
  refine ex_weak (ls := [some (.ref (86)), some (.int (a0)), none, none]) (le2_ok ⟨Or.inr rfl, Or.inr rfl, Or.inr rfl, Or.inr rfl, trivial⟩) ?_
  unfold p305 at hp
  refine e_iconst (v := 0) f305_0 (by decide) ?_
  refine e_istore_n (ls2 := [some (.ref (86)), some (.int (a0)), some (.int (0)), none]) f305_1 (Nat.le_of_ble_eq_true rfl) rfl ?_
  refine e_iload_n f305_2 rfl ?_
  by_cases hc1 : (a0) = (0 : Int32)
  · rw [if_pos hc1] at hp
    refine e_sw (t := 80) f305_3 (by rw [hc1]; decide) (by rw [hc1]; decide) ?_
    refine e_aload_n f305_80 rfl ?_
    refine e_getI f305_81 (WF.t w 86 (by decide)) (by decide) ?_
    have hp := Option.some.inj hp
    subst hp
    exact e_ireturn f305_84 (Or.inl rfl)
  rw [if_neg hc1] at hp
  by_cases hc2 : (a0) = (1 : Int32)
  · rw [if_pos hc2] at hp
    refine e_sw (t := 85) f305_3 (by rw [hc2]; decide) (by rw [hc2]; decide) ?_
    refine e_aload_n f305_85 rfl ?_
    refine e_getI f305_86 (WF.t w 86 (by decide)) (by decide) ?_
    have hp := Option.some.inj hp
    subst hp
    exact e_ireturn f305_89 (Or.inl rfl)
  rw [if_neg hc2] at hp
  by_cases hc3 : (a0) = (2 : Int32)
  · rw [if_pos hc3] at hp
    refine e_sw (t := 90) f305_3 (by rw [hc3]; decide) (by rw [hc3]; decide) ?_
    refine e_aload_n f305_90 rfl ?_
    refine e_getI f305_91 (WF.t w 86 (by decide)) (by decide) ?_
    have hp := Option.some.inj hp
    subst hp
    exact e_ireturn f305_94 (Or.inl rfl)
  rw [if_neg hc3] at hp
  by_cases hc4 : (a0) = (3 : Int32)
  · rw [if_pos hc4] at hp
    refine e_sw (t := 95) f305_3 (by rw [hc4]; decide) (by rw [hc4]; decide) ?_
    refine e_iconst (v := 0) f305_95 (by decide) ?_
    refine e_istore_n (ls2 := [some (.ref (86)), some (.int (a0)), some (.int (0)), some (.int (0))]) f305_96 (Nat.le_of_ble_eq_true rfl) rfl ?_
    refine ex_weak (ls := [some (.ref (86)), none, some (.int (0)), some (.int (0))]) (le2_ok ⟨Or.inr rfl, Or.inl rfl, Or.inr rfl, Or.inr rfl, trivial⟩) ?_
    exact p305_L97_ok d F a0 (h) (w) F (0) (0) _ hp
  rw [if_neg hc4] at hp
  by_cases hc5 : (a0) = (4 : Int32)
  · rw [if_pos hc5] at hp
    refine e_sw (t := 131) f305_3 (by rw [hc5]; decide) (by rw [hc5]; decide) ?_
    refine e_aload_n f305_131 rfl ?_
    refine e_getI f305_132 (WF.t w 86 (by decide)) (by decide) ?_
    have hp := Option.some.inj hp
    subst hp
    exact e_ireturn f305_135 (Or.inl rfl)
  rw [if_neg hc5] at hp
  by_cases hc6 : (a0) = (5 : Int32)
  · rw [if_pos hc6] at hp
    refine e_sw (t := 136) f305_3 (by rw [hc6]; decide) (by rw [hc6]; decide) ?_
    refine e_aload_n f305_136 rfl ?_
    refine e_getI f305_137 (WF.t w 86 (by decide)) (by decide) ?_
    have hp := Option.some.inj hp
    subst hp
    exact e_ireturn f305_140 (Or.inl rfl)
  rw [if_neg hc6] at hp
  by_cases hc7 : (a0) = (6 : Int32)
  · rw [if_pos hc7] at hp
    refine e_sw (t := 141) f305_3 (by rw [hc7]; decide) (by rw [hc7]; decide) ?_
    refine e_aload_n f305_141 rfl ?_
    refine e_getI f305_142 (WF.t w 86 (by decide)) (by decide) ?_
    have hp := Option.some.inj hp
    subst hp
    exact e_ireturn f305_145 (Or.inl rfl)
  rw [if_neg hc7] at hp
  by_cases hc8 : (a0) = (7 : Int32)
  · rw [if_pos hc8] at hp
    refine e_sw (t := 146) f305_3 (by rw [hc8]; decide) (by rw [hc8]; decide) ?_
    refine e_aload_n f305_146 rfl ?_
    refine e_getI f305_147 (WF.t w 86 (by decide)) (by decide) ?_
    have hp := Option.some.inj hp
    subst hp
    exact e_ireturn f305_150 (Or.inl rfl)
  rw [if_neg hc8] at hp
  by_cases hc9 : (a0) = (8 : Int32)
  · rw [if_pos hc9] at hp
    refine e_sw (t := 151) f305_3 (by rw [hc9]; decide) (by rw [hc9]; decide) ?_
    refine e_aload_n f305_151 rfl ?_
    refine e_getI f305_152 (WF.t w 86 (by decide)) (by decide) ?_
    have hp := Option.some.inj hp
    subst hp
    exact e_ireturn f305_155 (Or.inl rfl)
  rw [if_neg hc9] at hp
  by_cases hc10 : (a0) = (9 : Int32)
  · rw [if_pos hc10] at hp
    refine e_sw (t := 156) f305_3 (by rw [hc10]; decide) (by rw [hc10]; decide) ?_
    refine e_aload_n f305_156 rfl ?_
    refine e_getI f305_157 (WF.t w 86 (by decide)) (by decide) ?_
    have hp := Option.some.inj hp
    subst hp
    exact e_ireturn f305_160 (Or.inl rfl)
  rw [if_neg hc10] at hp
  by_cases hc11 : (a0) = (10 : Int32)
  · rw [if_pos hc11] at hp
    refine e_sw (t := 161) f305_3 (by rw [hc11]; decide) (by rw [hc11]; decide) ?_
    refine e_aload_n f305_161 rfl ?_
    refine e_getI f305_162 (WF.t w 86 (by decide)) (by decide) ?_
    have hp := Option.some.inj hp
    subst hp
    exact e_ireturn f305_165 (Or.inl rfl)
  rw [if_neg hc11] at hp
  by_cases hc12 : (a0) = (11 : Int32)
  · rw [if_pos hc12] at hp
    refine e_sw (t := 166) f305_3 (by rw [hc12]; decide) (by rw [hc12]; decide) ?_
    refine e_aload_n f305_166 rfl ?_
    refine e_getI f305_167 (WF.t w 86 (by decide)) (by decide) ?_
    have hp := Option.some.inj hp
    subst hp
    exact e_ireturn f305_170 (Or.inl rfl)
  rw [if_neg hc12] at hp
  by_cases hc13 : (a0) = (12 : Int32)
  · rw [if_pos hc13] at hp
    refine e_sw (t := 171) f305_3 (by rw [hc13]; decide) (by rw [hc13]; decide) ?_
    refine e_iconst (v := 0) f305_171 (by decide) ?_
    refine e_istore_n (ls2 := [some (.ref (86)), some (.int (a0)), some (.int (0)), some (.int (0))]) f305_172 (Nat.le_of_ble_eq_true rfl) rfl ?_
    refine ex_weak (ls := [some (.ref (86)), none, some (.int (0)), some (.int (0))]) (le2_ok ⟨Or.inr rfl, Or.inl rfl, Or.inr rfl, Or.inr rfl, trivial⟩) ?_
    exact p305_L173_ok d F a0 (h) (w) F (0) (0) _ hp
  rw [if_neg hc13] at hp
  by_cases hc14 : (a0) = (13 : Int32)
  · rw [if_pos hc14] at hp
    refine e_sw (t := 207) f305_3 (by rw [hc14]; decide) (by rw [hc14]; decide) ?_
    refine e_aload_n f305_207 rfl ?_
    refine e_getI f305_208 (WF.t w 86 (by decide)) (by decide) ?_
    have hp := Option.some.inj hp
    subst hp
    exact e_ireturn f305_211 (Or.inl rfl)
  rw [if_neg hc14] at hp
  by_cases hc15 : (a0) = (14 : Int32)
  · rw [if_pos hc15] at hp
    refine e_sw (t := 212) f305_3 (by rw [hc15]; decide) (by rw [hc15]; decide) ?_
    refine e_aload_n f305_212 rfl ?_
    refine e_getI f305_213 (WF.t w 86 (by decide)) (by decide) ?_
    have hp := Option.some.inj hp
    subst hp
    exact e_ireturn f305_216 (Or.inl rfl)
  rw [if_neg hc15] at hp
  by_cases hc16 : (a0) = (15 : Int32)
  · rw [if_pos hc16] at hp
    refine e_sw (t := 217) f305_3 (by rw [hc16]; decide) (by rw [hc16]; decide) ?_
    refine e_aload_n f305_217 rfl ?_
    refine e_getI f305_218 (WF.t w 86 (by decide)) (by decide) ?_
    have hp := Option.some.inj hp
    subst hp
    exact e_ireturn f305_221 (Or.inl rfl)
  rw [if_neg hc16] at hp
  have ho17 := sw_out (x := a0) 0 15 (fun j h1 h2 => by
    rcases (show j = 0 ∨ j = 1 ∨ j = 2 ∨ j = 3 ∨ j = 4 ∨ j = 5 ∨ j = 6 ∨ j = 7 ∨ j = 8 ∨ j = 9 ∨ j = 10 ∨ j = 11 ∨ j = 12 ∨ j = 13 ∨ j = 14 ∨ j = 15 by omega) with rfl | rfl | rfl | rfl | rfl | rfl | rfl | rfl | rfl | rfl | rfl | rfl | rfl | rfl | rfl | rfl
    · exact i32_ne hc1 (by decide)
    · exact i32_ne hc2 (by decide)
    · exact i32_ne hc3 (by decide)
    · exact i32_ne hc4 (by decide)
    · exact i32_ne hc5 (by decide)
    · exact i32_ne hc6 (by decide)
    · exact i32_ne hc7 (by decide)
    · exact i32_ne hc8 (by decide)
    · exact i32_ne hc9 (by decide)
    · exact i32_ne hc10 (by decide)
    · exact i32_ne hc11 (by decide)
    · exact i32_ne hc12 (by decide)
    · exact i32_ne hc13 (by decide)
    · exact i32_ne hc14 (by decide)
    · exact i32_ne hc15 (by decide)
    · exact i32_ne hc16 (by decide))
  refine e_sw (t := 222) f305_3 ⟨by rw [swTo, if_pos ho17]; decide, by decide⟩ (by rw [swTo, if_pos ho17]; decide) ?_
  refine e_iconst (v := -1) f305_222 (by decide) ?_
  have hp := Option.some.inj hp
  subst hp
  exact e_ireturn f305_223 (Or.inl rfl)
