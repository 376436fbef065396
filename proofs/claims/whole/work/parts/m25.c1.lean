theorem f26_0 : fetch 26 0 = some (.iconst 0, 0, 0, 0) := rfl
theorem f26_1 : fetch 26 1 = some (.istore_n 2, 0, 0, 0) := rfl
theorem f26_2 : fetch 26 2 = some (.iload_n 2, 0, 0, 0) := rfl
theorem f26_3 : fetch 26 3 = some (.aload_n 0, 0, 0, 0) := rfl
theorem f26_4 : fetch 26 4 = some (.getfield 34, 1, 3, 2) := rfl
theorem f26_7 : fetch 26 7 = some (.arraylength, 0, 0, 0) := rfl
theorem f26_8 : fetch 26 8 = some (.if_icmp .ge 28, 36, 0, 0) := rfl
theorem f26_11 : fetch 26 11 = some (.aload_n 0, 0, 0, 0) := rfl
theorem f26_12 : fetch 26 12 = some (.getfield 34, 1, 3, 2) := rfl
theorem f26_15 : fetch 26 15 = some (.iload_n 2, 0, 0, 0) := rfl
theorem f26_16 : fetch 26 16 = some (.iaload, 0, 0, 0) := rfl
theorem f26_17 : fetch 26 17 = some (.sipush 10023, 0, 0, 0) := rfl
theorem f26_20 : fetch 26 20 = some (.if_icmp .ne 10, 30, 0, 0) := rfl
theorem f26_23 : fetch 26 23 = some (.aload_n 0, 0, 0, 0) := rfl
theorem f26_24 : fetch 26 24 = some (.iload_n 2, 0, 0, 0) := rfl
theorem f26_25 : fetch 26 25 = some (.aload_n 1, 0, 0, 0) := rfl
theorem f26_26 : fetch 26 26 = some (.invokevirtual 54, 27, 2, 0) := rfl
theorem f26_29 : fetch 26 29 = some (.lreturn, 0, 0, 0) := rfl
theorem f26_30 : fetch 26 30 = some (.iinc 2 1, 0, 0, 0) := rfl
theorem f26_33 : fetch 26 33 = some (.goto (-31), 2, 0, 0) := rfl
theorem f26_36 : fetch 26 36 = some (.lconst 0, 0, 0, 0) := rfl
theorem f26_37 : fetch 26 37 = some (.lreturn, 0, 0, 0) := rfl
set_option maxRecDepth 100000 in
set_option maxHeartbeats 4000000 in
theorem p26_L2_ok (d : Nat) (F : Nat) (o : Nat) (a0 : Option Nat) : ∀ (n : Nat) (h : HS) (w : WF h) (ho : hT h o = 1) (v2 : Int32) (r : Int64 × HS), p26_L2 F o a0 n h v2 = some r → ex (d + 2) 26 (2, [some (.ref (o)), some (va_rf (a0)), some (.int (v2))], [], h) = some (some (.long (r.1)), r.2) := by
  intro n
  induction n with
  | zero => intro h w ho v2 r hp; cases hp
  | succ n ih =>
    intro h w ho v2 r hp
    unfold p26_L2 at hp
    refine e_iload_n f26_2 rfl ?_
    refine e_aload_n f26_3 rfl ?_
    refine e_getQ f26_4 ho rfl ?_
    obtain ⟨o1, ho2, hp⟩ := bind_some hp
    try dsimp only at hp
    rw [ho2]
    by_cases hg3 : hT (h) (o1) = 20
    rotate_left
    · rw [if_neg hg3] at hp; cases hp
    rw [if_pos hg3] at hp
    refine e_arraylength (v := Int32.ofNat (hN (h) (o1))) f26_7 (Or.inl ⟨by rw [hg3]; decide, by rw [hg3]; decide⟩) rfl ?_
    by_cases hc4 : (v2) < ((Int32.ofNat (hN (h) (o1))) : Int32)
    · rw [if_pos hc4] at hp
      refine e_icmp_ge_f f26_8 hc4 ?_
      refine e_aload_n f26_11 rfl ?_
      refine e_getQ f26_12 ho rfl ?_
      refine e_iload_n f26_15 rfl ?_
      obtain ⟨o5, ho6, hp⟩ := bind_some hp
      try dsimp only at hp
      rw [ho6]
      by_cases hg7 : hT (h) (o5) = 20
      rotate_left
      · rw [if_neg hg7] at hp; cases hp
      rw [if_pos hg7] at hp
      by_cases hg8 : (v2) < (0 : Int32) ∨ hN (h) (o5) ≤ (v2).toNatClampNeg
      · rw [if_pos hg8] at hp; cases hp
      rw [if_neg hg8] at hp
      refine e_iaload f26_16 (Or.inl hg7) rfl hg8 ?_
      refine e_sipush (v := 10023) f26_17 (by decide) ?_
      by_cases hc9 : (hI (h) (o5) (v2).toNatClampNeg) = ((10023) : Int32)
      · rw [if_pos hc9] at hp
        refine e_icmp_ne_f f26_20 hc9 ?_
        refine e_aload_n f26_23 rfl ?_
        refine e_iload_n f26_24 rfl ?_
        refine e_qload_n f26_25 rfl ?_
        obtain ⟨r10, hr11, hp⟩ := bind_some hp
        try dsimp only at hp
        refine e_callV (st := []) (o := o) (as := [.int (v2), va_rf (a0)]) f26_26 (by decide) rfl rfl (Nat.le_of_ble_eq_true rfl) ho (by cases (a0) <;> exact Nat.le_of_ble_eq_true rfl) (p27_ok d F (h) w (o) (v2) (a0) ho r10 hr11) ?_
        show ex _ 26 (29, [some (.ref (o)), some (va_rf (a0)), some (.int (v2))], [.long (r10.1)], r10.2) = _
        have hp := Option.some.inj hp
        subst hp
        exact e_lreturn f26_29
      · rw [if_neg hc9] at hp
        refine e_icmp_ne_t f26_20 hc9 ?_
        refine e_iinc (ls2 := [some (.ref (o)), some (va_rf (a0)), some (.int ((v2) + 1))]) f26_30 (by decide) rfl (by generalize a0 = z; cases z <;> rfl) ?_
        refine e_goto f26_33 ?_
        refine ex_weak (ls := [some (.ref (o)), some (va_rf (a0)), some (.int ((v2) + 1))]) (le2_ok ⟨Or.inr rfl, Or.inr rfl, Or.inr rfl, trivial⟩) ?_
        exact ih (h) (w) (ho) ((v2) + 1) _ hp
    · rw [if_neg hc4] at hp
      refine e_icmp_ge_t f26_8 hc4 ?_
      refine e_lconst (v := 0) f26_36 (by decide) ?_
      have hp := Option.some.inj hp
      subst hp
      exact e_lreturn f26_37
set_option maxRecDepth 100000 in
set_option maxHeartbeats 4000000 in
theorem p26_L2_w (F : Nat) (o : Nat) (a0 : Option Nat) : ∀ (n : Nat) (h : HS) (w : WF h) (ho : hT h o = 1) (v2 : Int32) (r : Int64 × HS), p26_L2 F o a0 n h v2 = some r → WF r.2 := by
  intro n
  induction n with
  | zero => intro h w ho v2 r hp; cases hp
  | succ n ih =>
    intro h w ho v2 r hp
    unfold p26_L2 at hp
    obtain ⟨o1, ho2, hp⟩ := bind_some hp
    try dsimp only at hp
    by_cases hg3 : hT (h) (o1) = 20
    rotate_left
    · rw [if_neg hg3] at hp; cases hp
    rw [if_pos hg3] at hp
    by_cases hc4 : (v2) < ((Int32.ofNat (hN (h) (o1))) : Int32)
    · rw [if_pos hc4] at hp
      obtain ⟨o5, ho6, hp⟩ := bind_some hp
      try dsimp only at hp
      by_cases hg7 : hT (h) (o5) = 20
      rotate_left
      · rw [if_neg hg7] at hp; cases hp
      rw [if_pos hg7] at hp
      by_cases hg8 : (v2) < (0 : Int32) ∨ hN (h) (o5) ≤ (v2).toNatClampNeg
      · rw [if_pos hg8] at hp; cases hp
      rw [if_neg hg8] at hp
      by_cases hc9 : (hI (h) (o5) (v2).toNatClampNeg) = ((10023) : Int32)
      · rw [if_pos hc9] at hp
        obtain ⟨r10, hr11, hp⟩ := bind_some hp
        try dsimp only at hp
        have hp := Option.some.inj hp
        subst hp
        exact ((p27_w F (h) w (o) (v2) (a0) ho  r10 hr11))
      · rw [if_neg hc9] at hp
        exact ih (h) (w) (ho) ((v2) + 1) _ hp
    · rw [if_neg hc4] at hp
      have hp := Option.some.inj hp
      subst hp
      exact (w)
set_option maxRecDepth 100000 in
set_option maxHeartbeats 4000000 in
theorem p26_ok (d : Nat) (F : Nat) (h : HS) (w : WF h) (o : Nat) (a0 : Option Nat) (ho : hT h o = 1) (r : Int64 × HS) (hp : p26 F h o a0 = some r) : ex (d + 2) 26 (ent 26 [.ref (o), va_rf (a0)] h) = some (some (.long (r.1)), r.2) := by
  rw [show ent 26 [.ref (o), va_rf (a0)] h = (0, [some (.ref (o)), some (va_rf (a0)), none], [], h) from by cases a0 <;> rfl]
  refine ex_weak (ls := [some (.ref (o)), some (va_rf (a0)), none]) (le2_ok ⟨Or.inr rfl, Or.inr rfl, Or.inr rfl, trivial⟩) ?_
  unfold p26 at hp
  refine e_iconst (v := 0) f26_0 (by decide) ?_
  refine e_istore_n (ls2 := [some (.ref (o)), some (va_rf (a0)), some (.int (0))]) f26_1 (Nat.le_of_ble_eq_true rfl) (by generalize a0 = z; cases z <;> rfl) ?_
  refine ex_weak (ls := [some (.ref (o)), some (va_rf (a0)), some (.int (0))]) (le2_ok ⟨Or.inr rfl, Or.inr rfl, Or.inr rfl, trivial⟩) ?_
  exact p26_L2_ok d F o a0 F (h) (w) (ho) (0) _ hp
set_option maxRecDepth 100000 in
set_option maxHeartbeats 4000000 in
theorem p26_w (F : Nat) (h : HS) (w : WF h) (o : Nat) (a0 : Option Nat) (ho : hT h o = 1) (r : Int64 × HS) (hp : p26 F h o a0 = some r) : WF r.2 := by
  unfold p26 at hp
  exact p26_L2_w F o a0 F (h) (w) (ho) (0) _ hp
theorem f31_0 : fetch 31 0 = some (.aload_n 0, 0, 0, 0) := rfl
theorem f31_1 : fetch 31 1 = some (.getfield 34, 2, 2, 0) := rfl
theorem f31_4 : fetch 31 4 = some (.aload_n 0, 0, 0, 0) := rfl
theorem f31_5 : fetch 31 5 = some (.getfield 29, 2, 0, 2) := rfl
theorem f31_8 : fetch 31 8 = some (.arraylength, 0, 0, 0) := rfl
theorem f31_9 : fetch 31 9 = some (.if_icmp .ge 15, 24, 0, 0) := rfl
theorem f31_12 : fetch 31 12 = some (.aload_n 0, 0, 0, 0) := rfl
theorem f31_13 : fetch 31 13 = some (.getfield 29, 2, 0, 2) := rfl
theorem f31_16 : fetch 31 16 = some (.aload_n 0, 0, 0, 0) := rfl
theorem f31_17 : fetch 31 17 = some (.getfield 34, 2, 2, 0) := rfl
theorem f31_20 : fetch 31 20 = some (.iaload, 0, 0, 0) := rfl
theorem f31_21 : fetch 31 21 = some (.goto 6, 27, 0, 0) := rfl
theorem f31_24 : fetch 31 24 = some (.sipush 10002, 0, 0, 0) := rfl
theorem f31_27 : fetch 31 27 = some (.ireturn, 0, 0, 0) := rfl
set_option maxRecDepth 100000 in
set_option maxHeartbeats 4000000 in
theorem p31_ok (d : Nat) (h : HS) (w : WF h) (r : Int32) (hp : p31 h = some r) : ex (d + 0) 31 (ent 31 [.ref (61)] h) = some (some (.int (r)), h) := by
  rw [show ent 31 [.ref (61)] h = (0, [some (.ref (61))], [], h) from by  rfl]
  refine ex_weak (ls := [some (.ref (61))]) (le2_ok ⟨Or.inr rfl, trivial⟩) ?_
  unfold p31 at hp
  refine e_aload_n f31_0 rfl ?_
  refine e_getI f31_1 (WF.t w 61 (by decide)) (by decide) ?_
  refine e_aload_n f31_4 rfl ?_
  refine e_getR f31_5 (WF.t w 61 (by decide)) rfl (WF.r (q := 59) w 61 0 (by decide)) ?_
  refine e_arraylength (v := 401) f31_8 (Or.inl ⟨by rw [(WF.t w 59 (by decide))]; decide, by rw [(WF.t w 59 (by decide))]; decide⟩) (by rw [(WF.n w 59 (by decide))]; decide) ?_
  by_cases hc1 : (hI (h) (61) 2) < ((401) : Int32)
  · rw [if_pos hc1] at hp
    refine e_icmp_ge_f f31_9 hc1 ?_
    refine e_aload_n f31_12 rfl ?_
    refine e_getR f31_13 (WF.t w 61 (by decide)) rfl (WF.r (q := 59) w 61 0 (by decide)) ?_
    refine e_aload_n f31_16 rfl ?_
    refine e_getI f31_17 (WF.t w 61 (by decide)) (by decide) ?_
    by_cases hg2 : (hI (h) (61) 2) < (0 : Int32) ∨ 401 ≤ (hI (h) (61) 2).toNatClampNeg
    · rw [if_pos hg2] at hp; cases hp
    rw [if_neg hg2] at hp
    refine e_iaload f31_20 (Or.inl (WF.t w 59 (by decide))) (WF.n w 59 (by decide)) hg2 ?_
    refine e_goto f31_21 ?_
    have hp := Option.some.inj hp
    subst hp
    exact e_ireturn f31_27 (Or.inl rfl)
  · rw [if_neg hc1] at hp
    refine e_icmp_ge_t f31_9 hc1 ?_
    refine e_sipush (v := 10002) f31_24 (by decide) ?_
    have hp := Option.some.inj hp
    subst hp
    exact e_ireturn f31_27 (Or.inl rfl)
theorem f32_0 : fetch 32 0 = some (.aload_n 0, 0, 0, 0) := rfl
theorem f32_1 : fetch 32 1 = some (.getfield 38, 2, 3, 0) := rfl
theorem f32_4 : fetch 32 4 = some (.ifCond .ne 35, 39, 0, 0) := rfl
theorem f32_7 : fetch 32 7 = some (.aload_n 0, 0, 0, 0) := rfl
theorem f32_8 : fetch 32 8 = some (.getfield 34, 2, 2, 0) := rfl
theorem f32_11 : fetch 32 11 = some (.aload_n 0, 0, 0, 0) := rfl
theorem f32_12 : fetch 32 12 = some (.getfield 33, 2, 1, 2) := rfl
theorem f32_15 : fetch 32 15 = some (.arraylength, 0, 0, 0) := rfl
theorem f32_16 : fetch 32 16 = some (.if_icmp .ge 23, 39, 0, 0) := rfl
theorem f32_19 : fetch 32 19 = some (.aload_n 0, 0, 0, 0) := rfl
theorem f32_20 : fetch 32 20 = some (.iconst 1, 0, 0, 0) := rfl
theorem f32_21 : fetch 32 21 = some (.bipush 8, 0, 0, 0) := rfl
theorem f32_23 : fetch 32 23 = some (.aload_n 0, 0, 0, 0) := rfl
theorem f32_24 : fetch 32 24 = some (.getfield 33, 2, 1, 2) := rfl
theorem f32_27 : fetch 32 27 = some (.aload_n 0, 0, 0, 0) := rfl
theorem f32_28 : fetch 32 28 = some (.getfield 34, 2, 2, 0) := rfl
theorem f32_31 : fetch 32 31 = some (.iaload, 0, 0, 0) := rfl
theorem f32_32 : fetch 32 32 = some (.imul, 0, 0, 0) := rfl
theorem f32_33 : fetch 32 33 = some (.iadd, 0, 0, 0) := rfl
theorem f32_34 : fetch 32 34 = some (.iload_n 1, 0, 0, 0) := rfl
theorem f32_35 : fetch 32 35 = some (.iadd, 0, 0, 0) := rfl
theorem f32_36 : fetch 32 36 = some (.putfield 38, 2, 3, 0) := rfl
theorem f32_39 : fetch 32 39 = some (.return_, 0, 0, 0) := rfl
set_option maxRecDepth 100000 in
set_option maxHeartbeats 4000000 in
theorem p32_ok (d : Nat) (h : HS) (w : WF h) (a0 : Int32) (r : HS) (hp : p32 h a0 = some r) : ex (d + 0) 32 (ent 32 [.ref (61), .int (a0)] h) = some (none, r) := by
  rw [show ent 32 [.ref (61), .int (a0)] h = (0, [some (.ref (61)), some (.int (a0))], [], h) from by  rfl]
  refine ex_weak (ls := [some (.ref (61)), some (.int (a0))]) (le2_ok ⟨Or.inr rfl, Or.inr rfl, trivial⟩) ?_
  unfold p32 at hp
  refine e_aload_n f32_0 rfl ?_
  refine e_getI f32_1 (WF.t w 61 (by decide)) (by decide) ?_
  by_cases hc1 : (hI (h) (61) 3) = (0 : Int32)
  · rw [if_pos hc1] at hp
    refine e_if_ne_f f32_4 hc1 ?_
    refine e_aload_n f32_7 rfl ?_
    refine e_getI f32_8 (WF.t w 61 (by decide)) (by decide) ?_
    refine e_aload_n f32_11 rfl ?_
    refine e_getR f32_12 (WF.t w 61 (by decide)) rfl (WF.r (q := 60) w 61 1 (by decide)) ?_
    refine e_arraylength (v := 401) f32_15 (Or.inl ⟨by rw [(WF.t w 60 (by decide))]; decide, by rw [(WF.t w 60 (by decide))]; decide⟩) (by rw [(WF.n w 60 (by decide))]; decide) ?_
    by_cases hc2 : (hI (h) (61) 2) < ((401) : Int32)
    · rw [if_pos hc2] at hp
      refine e_icmp_ge_f f32_16 hc2 ?_
      refine e_aload_n f32_19 rfl ?_
      refine e_iconst (v := 1) f32_20 (by decide) ?_
      refine e_bipush (v := 8) f32_21 (by decide) ?_
      refine e_aload_n f32_23 rfl ?_
      refine e_getR f32_24 (WF.t w 61 (by decide)) rfl (WF.r (q := 60) w 61 1 (by decide)) ?_
      refine e_aload_n f32_27 rfl ?_
      refine e_getI f32_28 (WF.t w 61 (by decide)) (by decide) ?_
      by_cases hg3 : (hI (h) (61) 2) < (0 : Int32) ∨ 401 ≤ (hI (h) (61) 2).toNatClampNeg
      · rw [if_pos hg3] at hp; cases hp
      rw [if_neg hg3] at hp
      refine e_iaload f32_31 (Or.inl (WF.t w 60 (by decide))) (WF.n w 60 (by decide)) hg3 ?_
      refine e_imul f32_32 ?_
      refine e_iadd f32_33 ?_
      refine e_iload_n f32_34 rfl ?_
      refine e_iadd f32_35 ?_
      refine e_putI f32_36 (WF.t w 61 (by decide)) rfl ?_
      have hp := Option.some.inj hp
      subst hp
      exact e_return f32_39
    · rw [if_neg hc2] at hp
      refine e_icmp_ge_t f32_16 hc2 ?_
      have hp := Option.some.inj hp
      subst hp
      exact e_return f32_39
  · rw [if_neg hc1] at hp
    refine e_if_ne_t f32_4 hc1 ?_
    have hp := Option.some.inj hp
    subst hp
    exact e_return f32_39
set_option maxRecDepth 100000 in
set_option maxHeartbeats 4000000 in
theorem p32_w (h : HS) (w : WF h) (a0 : Int32) (r : HS) (hp : p32 h a0 = some r) : WF r := by
  unfold p32 at hp
  by_cases hc1 : (hI (h) (61) 3) = (0 : Int32)
  · rw [if_pos hc1] at hp
    by_cases hc2 : (hI (h) (61) 2) < ((401) : Int32)
    · rw [if_pos hc2] at hp
      by_cases hg3 : (hI (h) (61) 2) < (0 : Int32) ∨ 401 ≤ (hI (h) (61) 2).toNatClampNeg
      · rw [if_pos hg3] at hp; cases hp
      rw [if_neg hg3] at hp
      have hp := Option.some.inj hp
      subst hp
      exact (w)
    · rw [if_neg hc2] at hp
      have hp := Option.some.inj hp
      subst hp
      exact (w)
  · rw [if_neg hc1] at hp
    have hp := Option.some.inj hp
    subst hp
    exact (w)
theorem f33_0 : fetch 33 0 = some (.aload_n 0, 0, 0, 0) := rfl
theorem f33_1 : fetch 33 1 = some (.getfield 38, 2, 3, 0) := rfl
theorem f33_4 : fetch 33 4 = some (.ifCond .ne 28, 32, 0, 0) := rfl
theorem f33_7 : fetch 33 7 = some (.aload_n 0, 0, 0, 0) := rfl
theorem f33_8 : fetch 33 8 = some (.getfield 34, 2, 2, 0) := rfl
theorem f33_11 : fetch 33 11 = some (.aload_n 0, 0, 0, 0) := rfl
theorem f33_12 : fetch 33 12 = some (.getfield 29, 2, 0, 2) := rfl
theorem f33_15 : fetch 33 15 = some (.arraylength, 0, 0, 0) := rfl
theorem f33_16 : fetch 33 16 = some (.if_icmp .ge 16, 32, 0, 0) := rfl
theorem f33_19 : fetch 33 19 = some (.aload_n 0, 0, 0, 0) := rfl
theorem f33_20 : fetch 33 20 = some (.getfield 29, 2, 0, 2) := rfl
theorem f33_23 : fetch 33 23 = some (.aload_n 0, 0, 0, 0) := rfl
theorem f33_24 : fetch 33 24 = some (.getfield 34, 2, 2, 0) := rfl
theorem f33_27 : fetch 33 27 = some (.iaload, 0, 0, 0) := rfl
theorem f33_28 : fetch 33 28 = some (.iload_n 1, 0, 0, 0) := rfl
theorem f33_29 : fetch 33 29 = some (.if_icmp .eq 5, 34, 0, 0) := rfl
theorem f33_32 : fetch 33 32 = some (.iconst 0, 0, 0, 0) := rfl
theorem f33_33 : fetch 33 33 = some (.ireturn, 0, 0, 1) := rfl
theorem f33_34 : fetch 33 34 = some (.aload_n 0, 0, 0, 0) := rfl
theorem f33_35 : fetch 33 35 = some (.dup, 0, 0, 0) := rfl
theorem f33_36 : fetch 33 36 = some (.getfield 34, 2, 2, 0) := rfl
theorem f33_39 : fetch 33 39 = some (.iconst 1, 0, 0, 0) := rfl
theorem f33_40 : fetch 33 40 = some (.iadd, 0, 0, 0) := rfl
theorem f33_41 : fetch 33 41 = some (.putfield 34, 2, 2, 0) := rfl
theorem f33_44 : fetch 33 44 = some (.iconst 1, 0, 0, 0) := rfl
theorem f33_45 : fetch 33 45 = some (.ireturn, 0, 0, 1) := rfl
set_option maxRecDepth 100000 in
set_option maxHeartbeats 4000000 in
theorem p33_ok (d : Nat) (h : HS) (w : WF h) (a0 : Int32) (r : Int32 × HS) (hp : p33 h a0 = some r) : ex (d + 0) 33 (ent 33 [.ref (61), .int (a0)] h) = some (some (.int (r.1)), r.2) := by
  rw [show ent 33 [.ref (61), .int (a0)] h = (0, [some (.ref (61)), some (.int (a0))], [], h) from by  rfl]
  refine ex_weak (ls := [some (.ref (61)), some (.int (a0))]) (le2_ok ⟨Or.inr rfl, Or.inr rfl, trivial⟩) ?_
  unfold p33 at hp
  refine e_aload_n f33_0 rfl ?_
  refine e_getI f33_1 (WF.t w 61 (by decide)) (by decide) ?_
  by_cases hc1 : (hI (h) (61) 3) = (0 : Int32)
  · rw [if_pos hc1] at hp
    refine e_if_ne_f f33_4 hc1 ?_
    refine e_aload_n f33_7 rfl ?_
    refine e_getI f33_8 (WF.t w 61 (by decide)) (by decide) ?_
    refine e_aload_n f33_11 rfl ?_
    refine e_getR f33_12 (WF.t w 61 (by decide)) rfl (WF.r (q := 59) w 61 0 (by decide)) ?_
    refine e_arraylength (v := 401) f33_15 (Or.inl ⟨by rw [(WF.t w 59 (by decide))]; decide, by rw [(WF.t w 59 (by decide))]; decide⟩) (by rw [(WF.n w 59 (by decide))]; decide) ?_
    by_cases hc2 : (hI (h) (61) 2) < ((401) : Int32)
    · rw [if_pos hc2] at hp
      refine e_icmp_ge_f f33_16 hc2 ?_
      refine e_aload_n f33_19 rfl ?_
      refine e_getR f33_20 (WF.t w 61 (by decide)) rfl (WF.r (q := 59) w 61 0 (by decide)) ?_
      refine e_aload_n f33_23 rfl ?_
      refine e_getI f33_24 (WF.t w 61 (by decide)) (by decide) ?_
      by_cases hg3 : (hI (h) (61) 2) < (0 : Int32) ∨ 401 ≤ (hI (h) (61) 2).toNatClampNeg
      · rw [if_pos hg3] at hp; cases hp
      rw [if_neg hg3] at hp
      refine e_iaload f33_27 (Or.inl (WF.t w 59 (by decide))) (WF.n w 59 (by decide)) hg3 ?_
      refine e_iload_n f33_28 rfl ?_
      by_cases hc4 : (hI (h) (59) (hI (h) (61) 2).toNatClampNeg) = ((a0) : Int32)
      · rw [if_pos hc4] at hp
        refine e_icmp_eq_t f33_29 hc4 ?_
        refine e_aload_n f33_34 rfl ?_
        refine e_dup f33_35 rfl ?_
        refine e_getI f33_36 (WF.t w 61 (by decide)) (by decide) ?_
        refine e_iconst (v := 1) f33_39 (by decide) ?_
        refine e_iadd f33_40 ?_
        refine e_putI f33_41 (WF.t w 61 (by decide)) rfl ?_
        refine e_iconst (v := 1) f33_44 (by decide) ?_
        have hp := Option.some.inj hp
        subst hp
        exact e_ireturn f33_45 (by decide)
      · rw [if_neg hc4] at hp
        refine e_icmp_eq_f f33_29 hc4 ?_
        refine e_iconst (v := 0) f33_32 (by decide) ?_
        have hp := Option.some.inj hp
        subst hp
        exact e_ireturn f33_33 (by decide)
    · rw [if_neg hc2] at hp
      refine e_icmp_ge_t f33_16 hc2 ?_
      refine e_iconst (v := 0) f33_32 (by decide) ?_
      have hp := Option.some.inj hp
      subst hp
      exact e_ireturn f33_33 (by decide)
  · rw [if_neg hc1] at hp
    refine e_if_ne_t f33_4 hc1 ?_
    refine e_iconst (v := 0) f33_32 (by decide) ?_
    have hp := Option.some.inj hp
    subst hp
    exact e_ireturn f33_33 (by decide)
set_option maxRecDepth 100000 in
set_option maxHeartbeats 4000000 in
theorem p33_w (h : HS) (w : WF h) (a0 : Int32) (r : Int32 × HS) (hp : p33 h a0 = some r) : WF r.2 := by
  unfold p33 at hp
  by_cases hc1 : (hI (h) (61) 3) = (0 : Int32)
  · rw [if_pos hc1] at hp
    by_cases hc2 : (hI (h) (61) 2) < ((401) : Int32)
    · rw [if_pos hc2] at hp
      by_cases hg3 : (hI (h) (61) 2) < (0 : Int32) ∨ 401 ≤ (hI (h) (61) 2).toNatClampNeg
      · rw [if_pos hg3] at hp; cases hp
      rw [if_neg hg3] at hp
      by_cases hc4 : (hI (h) (59) (hI (h) (61) 2).toNatClampNeg) = ((a0) : Int32)
      · rw [if_pos hc4] at hp
        have hp := Option.some.inj hp
        subst hp
        exact (w)
      · rw [if_neg hc4] at hp
        have hp := Option.some.inj hp
        subst hp
        exact (w)
    · rw [if_neg hc2] at hp
      have hp := Option.some.inj hp
      subst hp
      exact (w)
  · rw [if_neg hc1] at hp
    have hp := Option.some.inj hp
    subst hp
    exact (w)
theorem f36_0 : fetch 36 0 = some (.iconst 0, 0, 0, 0) := rfl
theorem f36_1 : fetch 36 1 = some (.istore_n 1, 0, 0, 0) := rfl
theorem f36_2 : fetch 36 2 = some (.iload_n 1, 0, 0, 0) := rfl
theorem f36_3 : fetch 36 3 = some (.iconst 2, 0, 0, 0) := rfl
theorem f36_4 : fetch 36 4 = some (.if_icmp .gt 23, 27, 0, 0) := rfl
theorem f36_7 : fetch 36 7 = some (.aload_n 0, 0, 0, 0) := rfl
theorem f36_8 : fetch 36 8 = some (.sipush 10024, 0, 0, 0) := rfl
theorem f36_11 : fetch 36 11 = some (.iload_n 1, 0, 0, 0) := rfl
theorem f36_12 : fetch 36 12 = some (.iadd, 0, 0, 0) := rfl
theorem f36_13 : fetch 36 13 = some (.invokevirtual 57, 33, 1, 0) := rfl
theorem f36_16 : fetch 36 16 = some (.ifCond .eq 5, 21, 0, 0) := rfl
theorem f36_19 : fetch 36 19 = some (.iload_n 1, 0, 0, 0) := rfl
theorem f36_20 : fetch 36 20 = some (.ireturn, 0, 0, 0) := rfl
theorem f36_21 : fetch 36 21 = some (.iinc 1 1, 0, 0, 0) := rfl
theorem f36_24 : fetch 36 24 = some (.goto (-22), 2, 0, 0) := rfl
theorem f36_27 : fetch 36 27 = some (.aload_n 0, 0, 0, 0) := rfl
theorem f36_28 : fetch 36 28 = some (.iconst 0, 0, 0, 0) := rfl
theorem f36_29 : fetch 36 29 = some (.invokevirtual 61, 32, 1, 0) := rfl
theorem f36_32 : fetch 36 32 = some (.iconst 2, 0, 0, 0) := rfl
theorem f36_33 : fetch 36 33 = some (.ireturn, 0, 0, 0) := rfl
set_option maxRecDepth 100000 in
set_option maxHeartbeats 4000000 in
theorem p36_L2_ok (d : Nat) (F : Nat) : ∀ (n : Nat) (h : HS) (w : WF h) (v1 : Int32) (r : Int32 × HS), p36_L2 F n h v1 = some r → ex (d + 1) 36 (2, [some (.ref (61)), some (.int (v1))], [], h) = some (some (.int (r.1)), r.2) := by
  intro n
  induction n with
  | zero => intro h w v1 r hp; cases hp
  | succ n ih =>
    intro h w v1 r hp
    unfold p36_L2 at hp
    refine e_iload_n f36_2 rfl ?_
    refine e_iconst (v := 2) f36_3 (by decide) ?_
    by_cases hc1 : (2) < ((v1) : Int32)
    · rw [if_pos hc1] at hp
      refine e_icmp_gt_t f36_4 hc1 ?_
      refine e_aload_n f36_27 rfl ?_
      refine e_iconst (v := 0) f36_28 (by decide) ?_
      obtain ⟨r2, hr3, hp⟩ := bind_some hp
      try dsimp only at hp
      refine e_callV (st := []) (o := 61) (as := [.int (0)]) f36_29 (by decide) rfl rfl (Nat.le_of_ble_eq_true rfl) (WF.t w 61 (by decide)) (Nat.le_of_ble_eq_true rfl) (p32_ok d (h) w (0) r2 hr3) ?_
      show ex _ 36 (32, [some (.ref (61)), some (.int (v1))], [], r2) = _
      refine e_iconst (v := 2) f36_32 (by decide) ?_
      have hp := Option.some.inj hp
      subst hp
      exact e_ireturn f36_33 (Or.inl rfl)
    · rw [if_neg hc1] at hp
      refine e_icmp_gt_f f36_4 hc1 ?_
      refine e_aload_n f36_7 rfl ?_
      refine e_sipush (v := 10024) f36_8 (by decide) ?_
      refine e_iload_n f36_11 rfl ?_
      refine e_iadd f36_12 ?_
      obtain ⟨r4, hr5, hp⟩ := bind_some hp
      try dsimp only at hp
      refine e_callV (st := []) (o := 61) (as := [.int ((10024) + (v1))]) f36_13 (by decide) rfl rfl (Nat.le_of_ble_eq_true rfl) (WF.t w 61 (by decide)) (Nat.le_of_ble_eq_true rfl) (p33_ok d (h) w ((10024) + (v1)) r4 hr5) ?_
      show ex _ 36 (16, [some (.ref (61)), some (.int (v1))], [.int (r4.1)], r4.2) = _
      by_cases hc6 : (r4.1) = (0 : Int32)
      · rw [if_pos hc6] at hp
        refine e_if_eq_t f36_16 hc6 ?_
        refine e_iinc (ls2 := [some (.ref (61)), some (.int ((v1) + 1))]) f36_21 (by decide) rfl rfl ?_
        refine e_goto f36_24 ?_
        refine ex_weak (ls := [some (.ref (61)), some (.int ((v1) + 1))]) (le2_ok ⟨Or.inr rfl, Or.inr rfl, trivial⟩) ?_
        exact ih (r4.2) ((p33_w (h) w ((10024) + (v1))  r4 hr5)) ((v1) + 1) _ hp
      · rw [if_neg hc6] at hp
        refine e_if_eq_f f36_16 hc6 ?_
        refine e_iload_n f36_19 rfl ?_
        have hp := Option.some.inj hp
        subst hp
        exact e_ireturn f36_20 (Or.inl rfl)
set_option maxRecDepth 100000 in
set_option maxHeartbeats 4000000 in
theorem p36_L2_w (F : Nat) : ∀ (n : Nat) (h : HS) (w : WF h) (v1 : Int32) (r : Int32 × HS), p36_L2 F n h v1 = some r → WF r.2 := by
  intro n
  induction n with
  | zero => intro h w v1 r hp; cases hp
  | succ n ih =>
    intro h w v1 r hp
    unfold p36_L2 at hp
    by_cases hc1 : (2) < ((v1) : Int32)
    · rw [if_pos hc1] at hp
      obtain ⟨r2, hr3, hp⟩ := bind_some hp
      try dsimp only at hp
      have hp := Option.some.inj hp
      subst hp
      exact ((p32_w (h) w (0)  r2 hr3))
    · rw [if_neg hc1] at hp
      obtain ⟨r4, hr5, hp⟩ := bind_some hp
      try dsimp only at hp
      by_cases hc6 : (r4.1) = (0 : Int32)
      · rw [if_pos hc6] at hp
        exact ih (r4.2) ((p33_w (h) w ((10024) + (v1))  r4 hr5)) ((v1) + 1) _ hp
      · rw [if_neg hc6] at hp
        have hp := Option.some.inj hp
        subst hp
        exact ((p33_w (h) w ((10024) + (v1))  r4 hr5))
set_option maxRecDepth 100000 in
set_option maxHeartbeats 4000000 in
theorem p36_ok (d : Nat) (F : Nat) (h : HS) (w : WF h) (r : Int32 × HS) (hp : p36 F h = some r) : ex (d + 1) 36 (ent 36 [.ref (61)] h) = some (some (.int (r.1)), r.2) := by
  rw [show ent 36 [.ref (61)] h = (0, [some (.ref (61)), none], [], h) from by  rfl]
  refine ex_weak (ls := [some (.ref (61)), none]) (le2_ok ⟨Or.inr rfl, Or.inr rfl, trivial⟩) ?_
  unfold p36 at hp
  refine e_iconst (v := 0) f36_0 (by decide) ?_
  refine e_istore_n (ls2 := [some (.ref (61)), some (.int (0))]) f36_1 (Nat.le_of_ble_eq_true rfl) rfl ?_
  refine ex_weak (ls := [some (.ref (61)), some (.int (0))]) (le2_ok ⟨Or.inr rfl, Or.inr rfl, trivial⟩) ?_
  exact p36_L2_ok d F F (h) (w) (0) _ hp
set_option maxRecDepth 100000 in
set_option maxHeartbeats 4000000 in
theorem p36_w (F : Nat) (h : HS) (w : WF h) (r : Int32 × HS) (hp : p36 F h = some r) : WF r.2 := by
  unfold p36 at hp
  exact p36_L2_w F F (h) (w) (0) _ hp
theorem f37_0 : fetch 37 0 = some (.aload_n 0, 0, 0, 0) := rfl
theorem f37_1 : fetch 37 1 = some (.invokevirtual 53, 31, 0, 0) := rfl
theorem f37_4 : fetch 37 4 = some (.istore_n 1, 0, 0, 0) := rfl
theorem f37_5 : fetch 37 5 = some (.iload_n 1, 0, 0, 0) := rfl
theorem f37_6 : fetch 37 6 = some (.sipush 10000, 0, 0, 0) := rfl
theorem f37_9 : fetch 37 9 = some (.if_icmp .le 11, 20, 0, 0) := rfl
theorem f37_12 : fetch 37 12 = some (.aload_n 0, 0, 0, 0) := rfl
theorem f37_13 : fetch 37 13 = some (.iconst 0, 0, 0, 0) := rfl
theorem f37_14 : fetch 37 14 = some (.invokevirtual 61, 32, 1, 0) := rfl
theorem f37_17 : fetch 37 17 = some (.goto 27, 44, 0, 0) := rfl
theorem f37_20 : fetch 37 20 = some (.iload_n 1, 0, 0, 0) := rfl
theorem f37_21 : fetch 37 21 = some (.bipush 99, 0, 0, 0) := rfl
theorem f37_23 : fetch 37 23 = some (.if_icmp .le 11, 34, 0, 0) := rfl
theorem f37_26 : fetch 37 26 = some (.aload_n 0, 0, 0, 0) := rfl
theorem f37_27 : fetch 37 27 = some (.iconst 1, 0, 0, 0) := rfl
theorem f37_28 : fetch 37 28 = some (.invokevirtual 61, 32, 1, 0) := rfl
theorem f37_31 : fetch 37 31 = some (.goto 13, 44, 0, 0) := rfl
theorem f37_34 : fetch 37 34 = some (.aload_n 0, 0, 0, 0) := rfl
theorem f37_35 : fetch 37 35 = some (.dup, 0, 0, 0) := rfl
theorem f37_36 : fetch 37 36 = some (.getfield 34, 2, 2, 0) := rfl
theorem f37_39 : fetch 37 39 = some (.iconst 1, 0, 0, 0) := rfl
theorem f37_40 : fetch 37 40 = some (.iadd, 0, 0, 0) := rfl
theorem f37_41 : fetch 37 41 = some (.putfield 34, 2, 2, 0) := rfl
theorem f37_44 : fetch 37 44 = some (.iload_n 1, 0, 0, 0) := rfl
theorem f37_45 : fetch 37 45 = some (.ireturn, 0, 0, 0) := rfl
set_option maxRecDepth 100000 in
set_option maxHeartbeats 4000000 in
theorem p37_ok (d : Nat) (h : HS) (w : WF h) (r : Int32 × HS) (hp : p37 h = some r) : ex (d + 1) 37 (ent 37 [.ref (61)] h) = some (some (.int (r.1)), r.2) := by
  rw [show ent 37 [.ref (61)] h = (0, [some (.ref (61)), none], [], h) from by  rfl]
  refine ex_weak (ls := [some (.ref (61)), none]) (le2_ok ⟨Or.inr rfl, Or.inr rfl, trivial⟩) ?_
  unfold p37 at hp
  refine e_aload_n f37_0 rfl ?_
  obtain ⟨r1, hr2, hp⟩ := bind_some hp
  try dsimp only at hp
  refine e_callV (st := []) (o := 61) (as := []) f37_1 (by decide) rfl rfl (Nat.le_of_ble_eq_true rfl) (WF.t w 61 (by decide)) (Nat.le_of_ble_eq_true rfl) (p31_ok d (h) w r1 hr2) ?_
  show ex _ 37 (4, [some (.ref (61)), none], [.int (r1)], h) = _
  refine e_istore_n (ls2 := [some (.ref (61)), some (.int (r1))]) f37_4 (Nat.le_of_ble_eq_true rfl) rfl ?_
  refine e_iload_n f37_5 rfl ?_
  refine e_sipush (v := 10000) f37_6 (by decide) ?_
  by_cases hc3 : (10000) < ((r1) : Int32)
  · rw [if_pos hc3] at hp
    refine e_icmp_le_f f37_9 hc3 ?_
    refine e_aload_n f37_12 rfl ?_
    refine e_iconst (v := 0) f37_13 (by decide) ?_
    obtain ⟨r4, hr5, hp⟩ := bind_some hp
    try dsimp only at hp
    refine e_callV (st := []) (o := 61) (as := [.int (0)]) f37_14 (by decide) rfl rfl (Nat.le_of_ble_eq_true rfl) (WF.t w 61 (by decide)) (Nat.le_of_ble_eq_true rfl) (p32_ok d (h) w (0) r4 hr5) ?_
    show ex _ 37 (17, [some (.ref (61)), some (.int (r1))], [], r4) = _
    refine e_goto f37_17 ?_
    refine e_iload_n f37_44 rfl ?_
    have hp := Option.some.inj hp
    subst hp
    exact e_ireturn f37_45 (Or.inl rfl)
  · rw [if_neg hc3] at hp
    refine e_icmp_le_t f37_9 hc3 ?_
    refine e_iload_n f37_20 rfl ?_
    refine e_bipush (v := 99) f37_21 (by decide) ?_
    by_cases hc6 : (99) < ((r1) : Int32)
    · rw [if_pos hc6] at hp
      refine e_icmp_le_f f37_23 hc6 ?_
      refine e_aload_n f37_26 rfl ?_
      refine e_iconst (v := 1) f37_27 (by decide) ?_
      obtain ⟨r7, hr8, hp⟩ := bind_some hp
      try dsimp only at hp
      refine e_callV (st := []) (o := 61) (as := [.int (1)]) f37_28 (by decide) rfl rfl (Nat.le_of_ble_eq_true rfl) (WF.t w 61 (by decide)) (Nat.le_of_ble_eq_true rfl) (p32_ok d (h) w (1) r7 hr8) ?_
      show ex _ 37 (31, [some (.ref (61)), some (.int (r1))], [], r7) = _
      refine e_goto f37_31 ?_
      refine e_iload_n f37_44 rfl ?_
      have hp := Option.some.inj hp
      subst hp
      exact e_ireturn f37_45 (Or.inl rfl)
    · rw [if_neg hc6] at hp
      refine e_icmp_le_t f37_23 hc6 ?_
      refine e_aload_n f37_34 rfl ?_
      refine e_dup f37_35 rfl ?_
      refine e_getI f37_36 (WF.t w 61 (by decide)) (by decide) ?_
      refine e_iconst (v := 1) f37_39 (by decide) ?_
      refine e_iadd f37_40 ?_
      refine e_putI f37_41 (WF.t w 61 (by decide)) rfl ?_
      refine e_iload_n f37_44 rfl ?_
      have hp := Option.some.inj hp
      subst hp
      exact e_ireturn f37_45 (Or.inl rfl)
set_option maxRecDepth 100000 in
set_option maxHeartbeats 4000000 in
theorem p37_w (h : HS) (w : WF h) (r : Int32 × HS) (hp : p37 h = some r) : WF r.2 := by
  unfold p37 at hp
  obtain ⟨r1, hr2, hp⟩ := bind_some hp
  try dsimp only at hp
  by_cases hc3 : (10000) < ((r1) : Int32)
  · rw [if_pos hc3] at hp
    obtain ⟨r4, hr5, hp⟩ := bind_some hp
    try dsimp only at hp
    have hp := Option.some.inj hp
    subst hp
    exact ((p32_w (h) w (0)  r4 hr5))
  · rw [if_neg hc3] at hp
    by_cases hc6 : (99) < ((r1) : Int32)
    · rw [if_pos hc6] at hp
      obtain ⟨r7, hr8, hp⟩ := bind_some hp
      try dsimp only at hp
      have hp := Option.some.inj hp
      subst hp
      exact ((p32_w (h) w (1)  r7 hr8))
    · rw [if_neg hc6] at hp
      have hp := Option.some.inj hp
      subst hp
      exact (w)
theorem f34_0 : fetch 34 0 = some (.aload_n 0, 0, 0, 0) := rfl
theorem f34_1 : fetch 34 1 = some (.getfield 38, 2, 3, 0) := rfl
theorem f34_4 : fetch 34 4 = some (.ifCond .ne 35, 39, 0, 0) := rfl
theorem f34_7 : fetch 34 7 = some (.aload_n 0, 0, 0, 0) := rfl
theorem f34_8 : fetch 34 8 = some (.getfield 47, 2, 6, 0) := rfl
theorem f34_11 : fetch 34 11 = some (.aload_n 0, 0, 0, 0) := rfl
theorem f34_12 : fetch 34 12 = some (.getfield 21, 2, 10, 2) := rfl
theorem f34_15 : fetch 34 15 = some (.arraylength, 0, 0, 0) := rfl
theorem f34_16 : fetch 34 16 = some (.if_icmp .ge 23, 39, 0, 0) := rfl
theorem f34_19 : fetch 34 19 = some (.aload_n 0, 0, 0, 0) := rfl
theorem f34_20 : fetch 34 20 = some (.getfield 21, 2, 10, 2) := rfl
theorem f34_23 : fetch 34 23 = some (.aload_n 0, 0, 0, 0) := rfl
theorem f34_24 : fetch 34 24 = some (.getfield 47, 2, 6, 0) := rfl
theorem f34_27 : fetch 34 27 = some (.iload_n 1, 0, 0, 0) := rfl
theorem f34_28 : fetch 34 28 = some (.iastore, 0, 0, 0) := rfl
theorem f34_29 : fetch 34 29 = some (.aload_n 0, 0, 0, 0) := rfl
theorem f34_30 : fetch 34 30 = some (.dup, 0, 0, 0) := rfl
theorem f34_31 : fetch 34 31 = some (.getfield 47, 2, 6, 0) := rfl
theorem f34_34 : fetch 34 34 = some (.iconst 1, 0, 0, 0) := rfl
theorem f34_35 : fetch 34 35 = some (.iadd, 0, 0, 0) := rfl
theorem f34_36 : fetch 34 36 = some (.putfield 47, 2, 6, 0) := rfl
theorem f34_39 : fetch 34 39 = some (.return_, 0, 0, 0) := rfl
set_option maxRecDepth 100000 in
set_option maxHeartbeats 4000000 in
theorem p34_ok (d : Nat) (h : HS) (w : WF h) (a0 : Int32) (r : HS) (hp : p34 h a0 = some r) : ex (d + 0) 34 (ent 34 [.ref (61), .int (a0)] h) = some (none, r) := by
  rw [show ent 34 [.ref (61), .int (a0)] h = (0, [some (.ref (61)), some (.int (a0))], [], h) from by  rfl]
  refine ex_weak (ls := [some (.ref (61)), some (.int (a0))]) (le2_ok ⟨Or.inr rfl, Or.inr rfl, trivial⟩) ?_
  unfold p34 at hp
  refine e_aload_n f34_0 rfl ?_
  refine e_getI f34_1 (WF.t w 61 (by decide)) (by decide) ?_
  by_cases hc1 : (hI (h) (61) 3) = (0 : Int32)
  · rw [if_pos hc1] at hp
    refine e_if_ne_f f34_4 hc1 ?_
    refine e_aload_n f34_7 rfl ?_
    refine e_getI f34_8 (WF.t w 61 (by decide)) (by decide) ?_
    refine e_aload_n f34_11 rfl ?_
    refine e_getR f34_12 (WF.t w 61 (by decide)) rfl (WF.r (q := 65) w 61 10 (by decide)) ?_
    refine e_arraylength (v := 400) f34_15 (Or.inl ⟨by rw [(WF.t w 65 (by decide))]; decide, by rw [(WF.t w 65 (by decide))]; decide⟩) (by rw [(WF.n w 65 (by decide))]; decide) ?_
    by_cases hc2 : (hI (h) (61) 6) < ((400) : Int32)
    · rw [if_pos hc2] at hp
      refine e_icmp_ge_f f34_16 hc2 ?_
      refine e_aload_n f34_19 rfl ?_
      refine e_getR f34_20 (WF.t w 61 (by decide)) rfl (WF.r (q := 65) w 61 10 (by decide)) ?_
      refine e_aload_n f34_23 rfl ?_
      refine e_getI f34_24 (WF.t w 61 (by decide)) (by decide) ?_
      refine e_iload_n f34_27 rfl ?_
      by_cases hg3 : (hI (h) (61) 6) < (0 : Int32) ∨ 400 ≤ (hI (h) (61) 6).toNatClampNeg
      · rw [if_pos hg3] at hp; cases hp
      rw [if_neg hg3] at hp
      refine e_iastore f34_28 (WF.t w 65 (by decide)) (WF.n w 65 (by decide)) hg3 ?_
      refine e_aload_n f34_29 rfl ?_
      refine e_dup f34_30 rfl ?_
      refine e_getI f34_31 (WF.t w 61 (by decide)) (by decide) ?_
      refine e_iconst (v := 1) f34_34 (by decide) ?_
      refine e_iadd f34_35 ?_
      refine e_putI f34_36 (WF.t w 61 (by decide)) rfl ?_
      obtain ⟨h4, e5, hp⟩ := bind_some hp
      try dsimp only at hp
      have e5 := Option.some.inj e5
      have w6 : WF h4 := e5 ▸ w
      rw [e5]
      have hp := Option.some.inj hp
      subst hp
      exact e_return f34_39
    · rw [if_neg hc2] at hp
      refine e_icmp_ge_t f34_16 hc2 ?_
      have hp := Option.some.inj hp
      subst hp
      exact e_return f34_39
  · rw [if_neg hc1] at hp
    refine e_if_ne_t f34_4 hc1 ?_
    have hp := Option.some.inj hp
    subst hp
    exact e_return f34_39
set_option maxRecDepth 100000 in
set_option maxHeartbeats 4000000 in
theorem p34_w (h : HS) (w : WF h) (a0 : Int32) (r : HS) (hp : p34 h a0 = some r) : WF r := by
  unfold p34 at hp
  by_cases hc1 : (hI (h) (61) 3) = (0 : Int32)
  · rw [if_pos hc1] at hp
    by_cases hc2 : (hI (h) (61) 6) < ((400) : Int32)
    · rw [if_pos hc2] at hp
      by_cases hg3 : (hI (h) (61) 6) < (0 : Int32) ∨ 400 ≤ (hI (h) (61) 6).toNatClampNeg
      · rw [if_pos hg3] at hp; cases hp
      rw [if_neg hg3] at hp
      obtain ⟨h4, e5, hp⟩ := bind_some hp
      try dsimp only at hp
      have e5 := Option.some.inj e5
      have w6 : WF h4 := e5 ▸ w
      have hp := Option.some.inj hp
      subst hp
      exact (w6)
    · rw [if_neg hc2] at hp
      have hp := Option.some.inj hp
      subst hp
      exact (w)
  · rw [if_neg hc1] at hp
    have hp := Option.some.inj hp
    subst hp
    exact (w)
theorem f41_0 : fetch 41 0 = some (.aload_n 0, 0, 0, 0) := rfl
theorem f41_1 : fetch 41 1 = some (.invokevirtual 53, 31, 0, 0) := rfl
theorem f41_4 : fetch 41 4 = some (.istore_n 2, 0, 0, 0) := rfl
theorem f41_5 : fetch 41 5 = some (.iload_n 2, 0, 0, 0) := rfl
theorem f41_6 : fetch 41 6 = some (.sipush 10000, 0, 0, 0) := rfl
theorem f41_9 : fetch 41 9 = some (.if_icmp .lt 17, 26, 0, 0) := rfl
theorem f41_12 : fetch 41 12 = some (.iload_n 2, 0, 0, 0) := rfl
theorem f41_13 : fetch 41 13 = some (.sipush 10010, 0, 0, 0) := rfl
theorem f41_16 : fetch 41 16 = some (.if_icmp .lt 14, 30, 0, 0) := rfl
theorem f41_19 : fetch 41 19 = some (.iload_n 2, 0, 0, 0) := rfl
theorem f41_20 : fetch 41 20 = some (.sipush 10021, 0, 0, 0) := rfl
theorem f41_23 : fetch 41 23 = some (.if_icmp .ge 7, 30, 0, 0) := rfl
theorem f41_26 : fetch 41 26 = some (.iconst 1, 0, 0, 0) := rfl
theorem f41_27 : fetch 41 27 = some (.goto 4, 31, 0, 0) := rfl
theorem f41_30 : fetch 41 30 = some (.iconst 0, 0, 0, 0) := rfl
theorem f41_31 : fetch 41 31 = some (.istore_n 3, 0, 0, 0) := rfl
theorem f41_32 : fetch 41 32 = some (.iload_n 3, 0, 0, 0) := rfl
theorem f41_33 : fetch 41 33 = some (.ifCond .ne 27, 60, 0, 0) := rfl
theorem f41_36 : fetch 41 36 = some (.iload_n 2, 0, 0, 0) := rfl
theorem f41_37 : fetch 41 37 = some (.sipush 10041, 0, 0, 0) := rfl
theorem f41_40 : fetch 41 40 = some (.if_icmp .eq 20, 60, 0, 0) := rfl
theorem f41_43 : fetch 41 43 = some (.aload_n 0, 0, 0, 0) := rfl
theorem f41_44 : fetch 41 44 = some (.iload_n 2, 0, 0, 0) := rfl
theorem f41_45 : fetch 41 45 = some (.sipush 10000, 0, 0, 0) := rfl
theorem f41_48 : fetch 41 48 = some (.if_icmp .ne 7, 55, 0, 0) := rfl
theorem f41_51 : fetch 41 51 = some (.iconst 1, 0, 0, 0) := rfl
theorem f41_52 : fetch 41 52 = some (.goto 4, 56, 0, 0) := rfl
theorem f41_55 : fetch 41 55 = some (.iconst 0, 0, 0, 0) := rfl
theorem f41_56 : fetch 41 56 = some (.invokevirtual 61, 32, 1, 0) := rfl
theorem f41_59 : fetch 41 59 = some (.return_, 0, 0, 0) := rfl
theorem f41_60 : fetch 41 60 = some (.iload_n 2, 0, 0, 0) := rfl
theorem f41_61 : fetch 41 61 = some (.sipush 10041, 0, 0, 0) := rfl
theorem f41_64 : fetch 41 64 = some (.if_icmp .ne 15, 79, 0, 0) := rfl
theorem f41_67 : fetch 41 67 = some (.iload_n 1, 0, 0, 0) := rfl
theorem f41_68 : fetch 41 68 = some (.bipush 10, 0, 0, 0) := rfl
theorem f41_70 : fetch 41 70 = some (.if_icmp .lt 9, 79, 0, 0) := rfl
theorem f41_73 : fetch 41 73 = some (.aload_n 0, 0, 0, 0) := rfl
theorem f41_74 : fetch 41 74 = some (.iconst 2, 0, 0, 0) := rfl
theorem f41_75 : fetch 41 75 = some (.invokevirtual 61, 32, 1, 0) := rfl
theorem f41_78 : fetch 41 78 = some (.return_, 0, 0, 0) := rfl
theorem f41_79 : fetch 41 79 = some (.aload_n 0, 0, 0, 0) := rfl
theorem f41_80 : fetch 41 80 = some (.dup, 0, 0, 0) := rfl
theorem f41_81 : fetch 41 81 = some (.getfield 41, 2, 4, 0) := rfl
theorem f41_84 : fetch 41 84 = some (.iconst 1, 0, 0, 0) := rfl
theorem f41_85 : fetch 41 85 = some (.iadd, 0, 0, 0) := rfl
theorem f41_86 : fetch 41 86 = some (.putfield 41, 2, 4, 0) := rfl
theorem f41_89 : fetch 41 89 = some (.aload_n 0, 0, 0, 0) := rfl
theorem f41_90 : fetch 41 90 = some (.getfield 41, 2, 4, 0) := rfl
theorem f41_93 : fetch 41 93 = some (.bipush 80, 0, 0, 0) := rfl
theorem f41_95 : fetch 41 95 = some (.if_icmp .le 8, 103, 0, 0) := rfl
theorem f41_98 : fetch 41 98 = some (.aload_n 0, 0, 0, 0) := rfl
theorem f41_99 : fetch 41 99 = some (.iconst 3, 0, 0, 0) := rfl
theorem f41_100 : fetch 41 100 = some (.invokevirtual 61, 32, 1, 0) := rfl
theorem f41_103 : fetch 41 103 = some (.aload_n 0, 0, 0, 0) := rfl
theorem f41_104 : fetch 41 104 = some (.dup, 0, 0, 0) := rfl
theorem f41_105 : fetch 41 105 = some (.getfield 34, 2, 2, 0) := rfl
theorem f41_108 : fetch 41 108 = some (.iconst 1, 0, 0, 0) := rfl
theorem f41_109 : fetch 41 109 = some (.iadd, 0, 0, 0) := rfl
theorem f41_110 : fetch 41 110 = some (.putfield 34, 2, 2, 0) := rfl
theorem f41_113 : fetch 41 113 = some (.iload_n 3, 0, 0, 0) := rfl
theorem f41_114 : fetch 41 114 = some (.ifCond .eq 9, 123, 0, 0) := rfl
theorem f41_117 : fetch 41 117 = some (.aload_n 0, 0, 0, 0) := rfl
theorem f41_118 : fetch 41 118 = some (.iload_n 2, 0, 0, 0) := rfl
theorem f41_119 : fetch 41 119 = some (.invokevirtual 80, 34, 1, 0) := rfl
theorem f41_122 : fetch 41 122 = some (.return_, 0, 0, 0) := rfl
theorem f41_123 : fetch 41 123 = some (.aload_n 0, 0, 0, 0) := rfl
theorem f41_124 : fetch 41 124 = some (.iload_n 1, 0, 0, 0) := rfl
theorem f41_125 : fetch 41 125 = some (.iconst 1, 0, 0, 0) := rfl
theorem f41_126 : fetch 41 126 = some (.iadd, 0, 0, 0) := rfl
theorem f41_127 : fetch 41 127 = some (.invokevirtual 71, 40, 1, 0) := rfl
theorem f41_130 : fetch 41 130 = some (.aload_n 0, 0, 0, 0) := rfl
theorem f41_131 : fetch 41 131 = some (.sipush 10042, 0, 0, 0) := rfl
theorem f41_134 : fetch 41 134 = some (.invokevirtual 57, 33, 1, 0) := rfl
theorem f41_137 : fetch 41 137 = some (.ifCond .ne 8, 145, 0, 0) := rfl
theorem f41_140 : fetch 41 140 = some (.aload_n 0, 0, 0, 0) := rfl
theorem f41_141 : fetch 41 141 = some (.iconst 0, 0, 0, 0) := rfl
theorem f41_142 : fetch 41 142 = some (.invokevirtual 61, 32, 1, 0) := rfl
theorem f41_145 : fetch 41 145 = some (.return_, 0, 0, 0) := rfl
set_option maxRecDepth 100000 in
set_option maxHeartbeats 4000000 in
theorem p41_j103_ok (d : Nat) (F : Nat) (R40 : HS → Int32 → Option (HS)) (a0 : Int32) (hR40 : ∀ (h : HS) (w : WF h) (a0 : Int32) (r : HS), R40 h a0 = some r → ex (d + 0) 40 (ent 40 [.ref (61), .int (a0)] h) = some (none, r)) (hW40 : ∀ (h : HS) (w : WF h) (a0 : Int32) (r : HS), R40 h a0 = some r → WF r) (h : HS) (w : WF h) (v2 : Int32) (v3 : Int32) (r : HS) (hp : p41_j103 F R40 a0 h v2 v3 = some r) : ex (d + 1) 41 (103, [some (.ref (61)), some (.int (a0)), some (.int (v2)), some (.int (v3))], [], h) = some (none, r) := by
  unfold p41_j103 at hp
  refine e_aload_n f41_103 rfl ?_
  refine e_dup f41_104 rfl ?_
  refine e_getI f41_105 (WF.t w 61 (by decide)) (by decide) ?_
  refine e_iconst (v := 1) f41_108 (by decide) ?_
  refine e_iadd f41_109 ?_
  refine e_putI f41_110 (WF.t w 61 (by decide)) rfl ?_
  refine e_iload_n f41_113 rfl ?_
  by_cases hc18 : (v3) = (0 : Int32)
  · rw [if_pos hc18] at hp
    refine e_if_eq_t f41_114 hc18 ?_
    refine e_aload_n f41_123 rfl ?_
    refine e_iload_n f41_124 rfl ?_
    refine e_iconst (v := 1) f41_125 (by decide) ?_
    refine e_iadd f41_126 ?_
    obtain ⟨r19, hr20, hp⟩ := bind_some hp
    try dsimp only at hp
    refine e_callV (st := []) (o := 61) (as := [.int ((a0) + (1))]) f41_127 (by decide) rfl rfl (Nat.le_of_ble_eq_true rfl) (WF.t w 61 (by decide)) (Nat.le_of_ble_eq_true rfl) (hR40 (hsI (h) (61) 2 ((hI (h) (61) 2) + (1))) w ((a0) + (1))  r19 hr20) ?_
    show ex _ 41 (130, [some (.ref (61)), some (.int (a0)), some (.int (v2)), some (.int (v3))], [], r19) = _
    refine e_aload_n f41_130 rfl ?_
    refine e_sipush (v := 10042) f41_131 (by decide) ?_
    obtain ⟨r21, hr22, hp⟩ := bind_some hp
    try dsimp only at hp
    refine e_callV (st := []) (o := 61) (as := [.int (10042)]) f41_134 (by decide) rfl rfl (Nat.le_of_ble_eq_true rfl) (WF.t (hW40 (hsI (h) (61) 2 ((hI (h) (61) 2) + (1))) w ((a0) + (1))  r19 hr20) 61 (by decide)) (Nat.le_of_ble_eq_true rfl) (p33_ok d (r19) (hW40 (hsI (h) (61) 2 ((hI (h) (61) 2) + (1))) w ((a0) + (1))  r19 hr20) (10042) r21 hr22) ?_
    show ex _ 41 (137, [some (.ref (61)), some (.int (a0)), some (.int (v2)), some (.int (v3))], [.int (r21.1)], r21.2) = _
    by_cases hc23 : (r21.1) = (0 : Int32)
    · rw [if_pos hc23] at hp
      refine e_if_ne_f f41_137 hc23 ?_
      refine e_aload_n f41_140 rfl ?_
      refine e_iconst (v := 0) f41_141 (by decide) ?_
      obtain ⟨r24, hr25, hp⟩ := bind_some hp
      try dsimp only at hp
      refine e_callV (st := []) (o := 61) (as := [.int (0)]) f41_142 (by decide) rfl rfl (Nat.le_of_ble_eq_true rfl) (WF.t (p33_w (r19) (hW40 (hsI (h) (61) 2 ((hI (h) (61) 2) + (1))) w ((a0) + (1))  r19 hr20) (10042)  r21 hr22) 61 (by decide)) (Nat.le_of_ble_eq_true rfl) (p32_ok d (r21.2) (p33_w (r19) (hW40 (hsI (h) (61) 2 ((hI (h) (61) 2) + (1))) w ((a0) + (1))  r19 hr20) (10042)  r21 hr22) (0) r24 hr25) ?_
      show ex _ 41 (145, [some (.ref (61)), some (.int (a0)), some (.int (v2)), some (.int (v3))], [], r24) = _
      have hp := Option.some.inj hp
      subst hp
      exact e_return f41_145
    · rw [if_neg hc23] at hp
      refine e_if_ne_t f41_137 hc23 ?_
      have hp := Option.some.inj hp
      subst hp
      exact e_return f41_145
  · rw [if_neg hc18] at hp
    refine e_if_eq_f f41_114 hc18 ?_
    refine e_aload_n f41_117 rfl ?_
    refine e_iload_n f41_118 rfl ?_
    obtain ⟨r26, hr27, hp⟩ := bind_some hp
    try dsimp only at hp
    refine e_callV (st := []) (o := 61) (as := [.int (v2)]) f41_119 (by decide) rfl rfl (Nat.le_of_ble_eq_true rfl) (WF.t w 61 (by decide)) (Nat.le_of_ble_eq_true rfl) (p34_ok d (hsI (h) (61) 2 ((hI (h) (61) 2) + (1))) w (v2) r26 hr27) ?_
    show ex _ 41 (122, [some (.ref (61)), some (.int (a0)), some (.int (v2)), some (.int (v3))], [], r26) = _
    have hp := Option.some.inj hp
    subst hp
    exact e_return f41_122
set_option maxRecDepth 100000 in
set_option maxHeartbeats 4000000 in
theorem p41_j103_w (F : Nat) (R40 : HS → Int32 → Option (HS)) (a0 : Int32) (hW40 : ∀ (h : HS) (w : WF h) (a0 : Int32) (r : HS), R40 h a0 = some r → WF r) (h : HS) (w : WF h) (v2 : Int32) (v3 : Int32) (r : HS) (hp : p41_j103 F R40 a0 h v2 v3 = some r) : WF r := by
  unfold p41_j103 at hp
  by_cases hc18 : (v3) = (0 : Int32)
  · rw [if_pos hc18] at hp
    obtain ⟨r19, hr20, hp⟩ := bind_some hp
    try dsimp only at hp
    obtain ⟨r21, hr22, hp⟩ := bind_some hp
    try dsimp only at hp
    by_cases hc23 : (r21.1) = (0 : Int32)
    · rw [if_pos hc23] at hp
      obtain ⟨r24, hr25, hp⟩ := bind_some hp
      try dsimp only at hp
      have hp := Option.some.inj hp
      subst hp
      exact ((p32_w (r21.2) (p33_w (r19) (hW40 (hsI (h) (61) 2 ((hI (h) (61) 2) + (1))) w ((a0) + (1))  r19 hr20) (10042)  r21 hr22) (0)  r24 hr25))
    · rw [if_neg hc23] at hp
      have hp := Option.some.inj hp
      subst hp
      exact ((p33_w (r19) (hW40 (hsI (h) (61) 2 ((hI (h) (61) 2) + (1))) w ((a0) + (1))  r19 hr20) (10042)  r21 hr22))
  · rw [if_neg hc18] at hp
    obtain ⟨r26, hr27, hp⟩ := bind_some hp
    try dsimp only at hp
    have hp := Option.some.inj hp
    subst hp
    exact ((p34_w (hsI (h) (61) 2 ((hI (h) (61) 2) + (1))) w (v2)  r26 hr27))
set_option maxRecDepth 100000 in
set_option maxHeartbeats 4000000 in
theorem p41_j56_ok (d : Nat) (F : Nat) (R40 : HS → Int32 → Option (HS)) (a0 : Int32) (hR40 : ∀ (h : HS) (w : WF h) (a0 : Int32) (r : HS), R40 h a0 = some r → ex (d + 0) 40 (ent 40 [.ref (61), .int (a0)] h) = some (none, r)) (hW40 : ∀ (h : HS) (w : WF h) (a0 : Int32) (r : HS), R40 h a0 = some r → WF r) (h : HS) (w : WF h) (s0 : Int32) (r : HS) (hp : p41_j56 F R40 a0 h s0 = some r) : ex (d + 1) 41 (56, [none, none, none, none], [.int (s0), .ref (61)], h) = some (none, r) := by
  unfold p41_j56 at hp
  obtain ⟨r13, hr14, hp⟩ := bind_some hp
  try dsimp only at hp
  refine e_callV (st := []) (o := 61) (as := [.int (s0)]) f41_56 (by decide) rfl rfl (Nat.le_of_ble_eq_true rfl) (WF.t w 61 (by decide)) (Nat.le_of_ble_eq_true rfl) (p32_ok d (h) w (s0) r13 hr14) ?_
  show ex _ 41 (59, [none, none, none, none], [], r13) = _
  have hp := Option.some.inj hp
  subst hp
  exact e_return f41_59
set_option maxRecDepth 100000 in
set_option maxHeartbeats 4000000 in
theorem p41_j56_w (F : Nat) (R40 : HS → Int32 → Option (HS)) (a0 : Int32) (hW40 : ∀ (h : HS) (w : WF h) (a0 : Int32) (r : HS), R40 h a0 = some r → WF r) (h : HS) (w : WF h) (s0 : Int32) (r : HS) (hp : p41_j56 F R40 a0 h s0 = some r) : WF r := by
  unfold p41_j56 at hp
  obtain ⟨r13, hr14, hp⟩ := bind_some hp
  try dsimp only at hp
  have hp := Option.some.inj hp
  subst hp
  exact ((p32_w (h) w (s0)  r13 hr14))
set_option maxRecDepth 100000 in
set_option maxHeartbeats 4000000 in
theorem p41_j79_ok (d : Nat) (F : Nat) (R40 : HS → Int32 → Option (HS)) (a0 : Int32) (hR40 : ∀ (h : HS) (w : WF h) (a0 : Int32) (r : HS), R40 h a0 = some r → ex (d + 0) 40 (ent 40 [.ref (61), .int (a0)] h) = some (none, r)) (hW40 : ∀ (h : HS) (w : WF h) (a0 : Int32) (r : HS), R40 h a0 = some r → WF r) (h : HS) (w : WF h) (v2 : Int32) (v3 : Int32) (r : HS) (hp : p41_j79 F R40 a0 h v2 v3 = some r) : ex (d + 1) 41 (79, [some (.ref (61)), some (.int (a0)), some (.int (v2)), some (.int (v3))], [], h) = some (none, r) := by
  unfold p41_j79 at hp
  refine e_aload_n f41_79 rfl ?_
  refine e_dup f41_80 rfl ?_
  refine e_getI f41_81 (WF.t w 61 (by decide)) (by decide) ?_
  refine e_iconst (v := 1) f41_84 (by decide) ?_
  refine e_iadd f41_85 ?_
  refine e_putI f41_86 (WF.t w 61 (by decide)) rfl ?_
  refine e_aload_n f41_89 rfl ?_
  refine e_getI f41_90 (WF.t w 61 (by decide)) (by decide) ?_
  refine e_bipush (v := 80) f41_93 (by decide) ?_
  by_cases hc15 : (80) < ((hI (hsI (h) (61) 4 ((hI (h) (61) 4) + (1))) (61) 4) : Int32)
  · rw [if_pos hc15] at hp
    refine e_icmp_le_f f41_95 hc15 ?_
    refine e_aload_n f41_98 rfl ?_
    refine e_iconst (v := 3) f41_99 (by decide) ?_
    obtain ⟨r16, hr17, hp⟩ := bind_some hp
    try dsimp only at hp
    refine e_callV (st := []) (o := 61) (as := [.int (3)]) f41_100 (by decide) rfl rfl (Nat.le_of_ble_eq_true rfl) (WF.t w 61 (by decide)) (Nat.le_of_ble_eq_true rfl) (p32_ok d (hsI (h) (61) 4 ((hI (h) (61) 4) + (1))) w (3) r16 hr17) ?_
    show ex _ 41 (103, [some (.ref (61)), some (.int (a0)), some (.int (v2)), some (.int (v3))], [], r16) = _
    refine ex_weak (ls := [some (.ref (61)), some (.int (a0)), some (.int (v2)), some (.int (v3))]) (le2_ok ⟨Or.inr rfl, Or.inr rfl, Or.inr rfl, Or.inr rfl, trivial⟩) ?_
    exact p41_j103_ok d F R40 a0 hR40 hW40 (r16) ((p32_w (hsI (h) (61) 4 ((hI (h) (61) 4) + (1))) w (3)  r16 hr17)) (v2) (v3) _ hp
  · rw [if_neg hc15] at hp
    refine e_icmp_le_t f41_95 hc15 ?_
    refine ex_weak (ls := [some (.ref (61)), some (.int (a0)), some (.int (v2)), some (.int (v3))]) (le2_ok ⟨Or.inr rfl, Or.inr rfl, Or.inr rfl, Or.inr rfl, trivial⟩) ?_
    exact p41_j103_ok d F R40 a0 hR40 hW40 (hsI (h) (61) 4 ((hI (h) (61) 4) + (1))) (w) (v2) (v3) _ hp
set_option maxRecDepth 100000 in
set_option maxHeartbeats 4000000 in
theorem p41_j79_w (F : Nat) (R40 : HS → Int32 → Option (HS)) (a0 : Int32) (hW40 : ∀ (h : HS) (w : WF h) (a0 : Int32) (r : HS), R40 h a0 = some r → WF r) (h : HS) (w : WF h) (v2 : Int32) (v3 : Int32) (r : HS) (hp : p41_j79 F R40 a0 h v2 v3 = some r) : WF r := by
  unfold p41_j79 at hp
  by_cases hc15 : (80) < ((hI (hsI (h) (61) 4 ((hI (h) (61) 4) + (1))) (61) 4) : Int32)
  · rw [if_pos hc15] at hp
    obtain ⟨r16, hr17, hp⟩ := bind_some hp
    try dsimp only at hp
    exact p41_j103_w F R40 a0 hW40 (r16) ((p32_w (hsI (h) (61) 4 ((hI (h) (61) 4) + (1))) w (3)  r16 hr17)) (v2) (v3) _ hp
  · rw [if_neg hc15] at hp
    exact p41_j103_w F R40 a0 hW40 (hsI (h) (61) 4 ((hI (h) (61) 4) + (1))) (w) (v2) (v3) _ hp
set_option maxRecDepth 100000 in
set_option maxHeartbeats 4000000 in
theorem p41_j60_ok (d : Nat) (F : Nat) (R40 : HS → Int32 → Option (HS)) (a0 : Int32) (hR40 : ∀ (h : HS) (w : WF h) (a0 : Int32) (r : HS), R40 h a0 = some r → ex (d + 0) 40 (ent 40 [.ref (61), .int (a0)] h) = some (none, r)) (hW40 : ∀ (h : HS) (w : WF h) (a0 : Int32) (r : HS), R40 h a0 = some r → WF r) (h : HS) (w : WF h) (v2 : Int32) (v3 : Int32) (r : HS) (hp : p41_j60 F R40 a0 h v2 v3 = some r) : ex (d + 1) 41 (60, [some (.ref (61)), some (.int (a0)), some (.int (v2)), some (.int (v3))], [], h) = some (none, r) := by
  unfold p41_j60 at hp
  refine e_iload_n f41_60 rfl ?_
  refine e_sipush (v := 10041) f41_61 (by decide) ?_
  by_cases hc9 : (v2) = ((10041) : Int32)
  · rw [if_pos hc9] at hp
    refine e_icmp_ne_f f41_64 hc9 ?_
    refine e_iload_n f41_67 rfl ?_
    refine e_bipush (v := 10) f41_68 (by decide) ?_
    by_cases hc10 : (a0) < ((10) : Int32)
    · rw [if_pos hc10] at hp
      refine e_icmp_lt_t f41_70 hc10 ?_
      refine ex_weak (ls := [some (.ref (61)), some (.int (a0)), some (.int (v2)), some (.int (v3))]) (le2_ok ⟨Or.inr rfl, Or.inr rfl, Or.inr rfl, Or.inr rfl, trivial⟩) ?_
      exact p41_j79_ok d F R40 a0 hR40 hW40 (h) (w) (v2) (v3) _ hp
    · rw [if_neg hc10] at hp
      refine e_icmp_lt_f f41_70 hc10 ?_
      refine e_aload_n f41_73 rfl ?_
      refine e_iconst (v := 2) f41_74 (by decide) ?_
      obtain ⟨r11, hr12, hp⟩ := bind_some hp
      try dsimp only at hp
      refine e_callV (st := []) (o := 61) (as := [.int (2)]) f41_75 (by decide) rfl rfl (Nat.le_of_ble_eq_true rfl) (WF.t w 61 (by decide)) (Nat.le_of_ble_eq_true rfl) (p32_ok d (h) w (2) r11 hr12) ?_
      show ex _ 41 (78, [some (.ref (61)), some (.int (a0)), some (.int (v2)), some (.int (v3))], [], r11) = _
      have hp := Option.some.inj hp
      subst hp
      exact e_return f41_78
  · rw [if_neg hc9] at hp
    refine e_icmp_ne_t f41_64 hc9 ?_
    refine ex_weak (ls := [some (.ref (61)), some (.int (a0)), some (.int (v2)), some (.int (v3))]) (le2_ok ⟨Or.inr rfl, Or.inr rfl, Or.inr rfl, Or.inr rfl, trivial⟩) ?_
    exact p41_j79_ok d F R40 a0 hR40 hW40 (h) (w) (v2) (v3) _ hp
set_option maxRecDepth 100000 in
set_option maxHeartbeats 4000000 in
theorem p41_j60_w (F : Nat) (R40 : HS → Int32 → Option (HS)) (a0 : Int32) (hW40 : ∀ (h : HS) (w : WF h) (a0 : Int32) (r : HS), R40 h a0 = some r → WF r) (h : HS) (w : WF h) (v2 : Int32) (v3 : Int32) (r : HS) (hp : p41_j60 F R40 a0 h v2 v3 = some r) : WF r := by
  unfold p41_j60 at hp
  by_cases hc9 : (v2) = ((10041) : Int32)
  · rw [if_pos hc9] at hp
    by_cases hc10 : (a0) < ((10) : Int32)
    · rw [if_pos hc10] at hp
      exact p41_j79_w F R40 a0 hW40 (h) (w) (v2) (v3) _ hp
    · rw [if_neg hc10] at hp
      obtain ⟨r11, hr12, hp⟩ := bind_some hp
      try dsimp only at hp
      have hp := Option.some.inj hp
      subst hp
      exact ((p32_w (h) w (2)  r11 hr12))
  · rw [if_neg hc9] at hp
    exact p41_j79_w F R40 a0 hW40 (h) (w) (v2) (v3) _ hp
set_option maxRecDepth 100000 in
set_option maxHeartbeats 4000000 in
theorem p41_j31_ok (d : Nat) (F : Nat) (R40 : HS → Int32 → Option (HS)) (a0 : Int32) (hR40 : ∀ (h : HS) (w : WF h) (a0 : Int32) (r : HS), R40 h a0 = some r → ex (d + 0) 40 (ent 40 [.ref (61), .int (a0)] h) = some (none, r)) (hW40 : ∀ (h : HS) (w : WF h) (a0 : Int32) (r : HS), R40 h a0 = some r → WF r) (h : HS) (w : WF h) (v2 : Int32) (s0 : Int32) (r : HS) (hp : p41_j31 F R40 a0 h v2 s0 = some r) : ex (d + 1) 41 (31, [some (.ref (61)), some (.int (a0)), some (.int (v2)), none], [.int (s0)], h) = some (none, r) := by
  unfold p41_j31 at hp
  refine e_istore_n (ls2 := [some (.ref (61)), some (.int (a0)), some (.int (v2)), some (.int (s0))]) f41_31 (Nat.le_of_ble_eq_true rfl) rfl ?_
  refine e_iload_n f41_32 rfl ?_
  by_cases hc6 : (s0) = (0 : Int32)
  · rw [if_pos hc6] at hp
    refine e_if_ne_f f41_33 hc6 ?_
    refine e_iload_n f41_36 rfl ?_
    refine e_sipush (v := 10041) f41_37 (by decide) ?_
    by_cases hc7 : (v2) = ((10041) : Int32)
    · rw [if_pos hc7] at hp
      refine e_icmp_eq_t f41_40 hc7 ?_
      refine ex_weak (ls := [some (.ref (61)), some (.int (a0)), some (.int (v2)), some (.int (s0))]) (le2_ok ⟨Or.inr rfl, Or.inr rfl, Or.inr rfl, Or.inr rfl, trivial⟩) ?_
      exact p41_j60_ok d F R40 a0 hR40 hW40 (h) (w) (v2) (s0) _ hp
    · rw [if_neg hc7] at hp
      refine e_icmp_eq_f f41_40 hc7 ?_
      refine e_aload_n f41_43 rfl ?_
      refine e_iload_n f41_44 rfl ?_
      refine e_sipush (v := 10000) f41_45 (by decide) ?_
      by_cases hc8 : (v2) = ((10000) : Int32)
      · rw [if_pos hc8] at hp
        refine e_icmp_ne_f f41_48 hc8 ?_
        refine e_iconst (v := 1) f41_51 (by decide) ?_
        refine e_goto f41_52 ?_
        refine ex_weak (ls := [none, none, none, none]) (le2_ok ⟨Or.inl rfl, Or.inl rfl, Or.inl rfl, Or.inl rfl, trivial⟩) ?_
        exact p41_j56_ok d F R40 a0 hR40 hW40 (h) (w) (1) _ hp
      · rw [if_neg hc8] at hp
        refine e_icmp_ne_t f41_48 hc8 ?_
        refine e_iconst (v := 0) f41_55 (by decide) ?_
        refine ex_weak (ls := [none, none, none, none]) (le2_ok ⟨Or.inl rfl, Or.inl rfl, Or.inl rfl, Or.inl rfl, trivial⟩) ?_
        exact p41_j56_ok d F R40 a0 hR40 hW40 (h) (w) (0) _ hp
  · rw [if_neg hc6] at hp
    refine e_if_ne_t f41_33 hc6 ?_
    refine ex_weak (ls := [some (.ref (61)), some (.int (a0)), some (.int (v2)), some (.int (s0))]) (le2_ok ⟨Or.inr rfl, Or.inr rfl, Or.inr rfl, Or.inr rfl, trivial⟩) ?_
    exact p41_j60_ok d F R40 a0 hR40 hW40 (h) (w) (v2) (s0) _ hp
set_option maxRecDepth 100000 in
set_option maxHeartbeats 4000000 in
theorem p41_j31_w (F : Nat) (R40 : HS → Int32 → Option (HS)) (a0 : Int32) (hW40 : ∀ (h : HS) (w : WF h) (a0 : Int32) (r : HS), R40 h a0 = some r → WF r) (h : HS) (w : WF h) (v2 : Int32) (s0 : Int32) (r : HS) (hp : p41_j31 F R40 a0 h v2 s0 = some r) : WF r := by
  unfold p41_j31 at hp
  by_cases hc6 : (s0) = (0 : Int32)
  · rw [if_pos hc6] at hp
    by_cases hc7 : (v2) = ((10041) : Int32)
    · rw [if_pos hc7] at hp
      exact p41_j60_w F R40 a0 hW40 (h) (w) (v2) (s0) _ hp
    · rw [if_neg hc7] at hp
      by_cases hc8 : (v2) = ((10000) : Int32)
      · rw [if_pos hc8] at hp
        exact p41_j56_w F R40 a0 hW40 (h) (w) (1) _ hp
      · rw [if_neg hc8] at hp
        exact p41_j56_w F R40 a0 hW40 (h) (w) (0) _ hp
  · rw [if_neg hc6] at hp
    exact p41_j60_w F R40 a0 hW40 (h) (w) (v2) (s0) _ hp
set_option maxRecDepth 100000 in
set_option maxHeartbeats 4000000 in
theorem p41_j26_ok (d : Nat) (F : Nat) (R40 : HS → Int32 → Option (HS)) (a0 : Int32) (hR40 : ∀ (h : HS) (w : WF h) (a0 : Int32) (r : HS), R40 h a0 = some r → ex (d + 0) 40 (ent 40 [.ref (61), .int (a0)] h) = some (none, r)) (hW40 : ∀ (h : HS) (w : WF h) (a0 : Int32) (r : HS), R40 h a0 = some r → WF r) (h : HS) (w : WF h) (v2 : Int32) (r : HS) (hp : p41_j26 F R40 a0 h v2 = some r) : ex (d + 1) 41 (26, [some (.ref (61)), some (.int (a0)), some (.int (v2)), none], [], h) = some (none, r) := by
  unfold p41_j26 at hp
  refine e_iconst (v := 1) f41_26 (by decide) ?_
  refine e_goto f41_27 ?_
  refine ex_weak (ls := [some (.ref (61)), some (.int (a0)), some (.int (v2)), none]) (le2_ok ⟨Or.inr rfl, Or.inr rfl, Or.inr rfl, Or.inl rfl, trivial⟩) ?_
  exact p41_j31_ok d F R40 a0 hR40 hW40 (h) (w) (v2) (1) _ hp
set_option maxRecDepth 100000 in
set_option maxHeartbeats 4000000 in
theorem p41_j26_w (F : Nat) (R40 : HS → Int32 → Option (HS)) (a0 : Int32) (hW40 : ∀ (h : HS) (w : WF h) (a0 : Int32) (r : HS), R40 h a0 = some r → WF r) (h : HS) (w : WF h) (v2 : Int32) (r : HS) (hp : p41_j26 F R40 a0 h v2 = some r) : WF r := by
  unfold p41_j26 at hp
  exact p41_j31_w F R40 a0 hW40 (h) (w) (v2) (1) _ hp
set_option maxRecDepth 100000 in
set_option maxHeartbeats 4000000 in
theorem p41_j30_ok (d : Nat) (F : Nat) (R40 : HS → Int32 → Option (HS)) (a0 : Int32) (hR40 : ∀ (h : HS) (w : WF h) (a0 : Int32) (r : HS), R40 h a0 = some r → ex (d + 0) 40 (ent 40 [.ref (61), .int (a0)] h) = some (none, r)) (hW40 : ∀ (h : HS) (w : WF h) (a0 : Int32) (r : HS), R40 h a0 = some r → WF r) (h : HS) (w : WF h) (v2 : Int32) (r : HS) (hp : p41_j30 F R40 a0 h v2 = some r) : ex (d + 1) 41 (30, [some (.ref (61)), some (.int (a0)), some (.int (v2)), none], [], h) = some (none, r) := by
  unfold p41_j30 at hp
  refine e_iconst (v := 0) f41_30 (by decide) ?_
  refine ex_weak (ls := [some (.ref (61)), some (.int (a0)), some (.int (v2)), none]) (le2_ok ⟨Or.inr rfl, Or.inr rfl, Or.inr rfl, Or.inl rfl, trivial⟩) ?_
  exact p41_j31_ok d F R40 a0 hR40 hW40 (h) (w) (v2) (0) _ hp
set_option maxRecDepth 100000 in
set_option maxHeartbeats 4000000 in
theorem p41_j30_w (F : Nat) (R40 : HS → Int32 → Option (HS)) (a0 : Int32) (hW40 : ∀ (h : HS) (w : WF h) (a0 : Int32) (r : HS), R40 h a0 = some r → WF r) (h : HS) (w : WF h) (v2 : Int32) (r : HS) (hp : p41_j30 F R40 a0 h v2 = some r) : WF r := by
  unfold p41_j30 at hp
  exact p41_j31_w F R40 a0 hW40 (h) (w) (v2) (0) _ hp
set_option maxRecDepth 100000 in
set_option maxHeartbeats 4000000 in
theorem p41_ok (d : Nat) (F : Nat) (R40 : HS → Int32 → Option (HS)) (hR40 : ∀ (h : HS) (w : WF h) (a0 : Int32) (r : HS), R40 h a0 = some r → ex (d + 0) 40 (ent 40 [.ref (61), .int (a0)] h) = some (none, r)) (hW40 : ∀ (h : HS) (w : WF h) (a0 : Int32) (r : HS), R40 h a0 = some r → WF r) (h : HS) (w : WF h) (a0 : Int32) (r : HS) (hp : p41 F R40 h a0 = some r) : ex (d + 1) 41 (ent 41 [.ref (61), .int (a0)] h) = some (none, r) := by
  rw [show ent 41 [.ref (61), .int (a0)] h = (0, [some (.ref (61)), some (.int (a0)), none, none], [], h) from by  rfl]
  refine ex_weak (ls := [some (.ref (61)), some (.int (a0)), none, none]) (le2_ok ⟨Or.inr rfl, Or.inr rfl, Or.inr rfl, Or.inr rfl, trivial⟩) ?_
  unfold p41 at hp
  refine e_aload_n f41_0 rfl ?_
  obtain ⟨r1, hr2, hp⟩ := bind_some hp
  try dsimp only at hp
  refine e_callV (st := []) (o := 61) (as := []) f41_1 (by decide) rfl rfl (Nat.le_of_ble_eq_true rfl) (WF.t w 61 (by decide)) (Nat.le_of_ble_eq_true rfl) (p31_ok d (h) w r1 hr2) ?_
  show ex _ 41 (4, [some (.ref (61)), some (.int (a0)), none, none], [.int (r1)], h) = _
  refine e_istore_n (ls2 := [some (.ref (61)), some (.int (a0)), some (.int (r1)), none]) f41_4 (Nat.le_of_ble_eq_true rfl) rfl ?_
  refine e_iload_n f41_5 rfl ?_
  refine e_sipush (v := 10000) f41_6 (by decide) ?_
  by_cases hc3 : (r1) < ((10000) : Int32)
  · rw [if_pos hc3] at hp
    refine e_icmp_lt_t f41_9 hc3 ?_
    refine ex_weak (ls := [some (.ref (61)), some (.int (a0)), some (.int (r1)), none]) (le2_ok ⟨Or.inr rfl, Or.inr rfl, Or.inr rfl, Or.inl rfl, trivial⟩) ?_
    exact p41_j26_ok d F R40 a0 hR40 hW40 (h) (w) (r1) _ hp
  · rw [if_neg hc3] at hp
    refine e_icmp_lt_f f41_9 hc3 ?_
    refine e_iload_n f41_12 rfl ?_
    refine e_sipush (v := 10010) f41_13 (by decide) ?_
    by_cases hc4 : (r1) < ((10010) : Int32)
    · rw [if_pos hc4] at hp
      refine e_icmp_lt_t f41_16 hc4 ?_
      refine ex_weak (ls := [some (.ref (61)), some (.int (a0)), some (.int (r1)), none]) (le2_ok ⟨Or.inr rfl, Or.inr rfl, Or.inr rfl, Or.inl rfl, trivial⟩) ?_
      exact p41_j30_ok d F R40 a0 hR40 hW40 (h) (w) (r1) _ hp
    · rw [if_neg hc4] at hp
      refine e_icmp_lt_f f41_16 hc4 ?_
      refine e_iload_n f41_19 rfl ?_
      refine e_sipush (v := 10021) f41_20 (by decide) ?_
      by_cases hc5 : (r1) < ((10021) : Int32)
      · rw [if_pos hc5] at hp
        refine e_icmp_ge_f f41_23 hc5 ?_
        refine ex_weak (ls := [some (.ref (61)), some (.int (a0)), some (.int (r1)), none]) (le2_ok ⟨Or.inr rfl, Or.inr rfl, Or.inr rfl, Or.inl rfl, trivial⟩) ?_
        exact p41_j26_ok d F R40 a0 hR40 hW40 (h) (w) (r1) _ hp
      · rw [if_neg hc5] at hp
        refine e_icmp_ge_t f41_23 hc5 ?_
        refine ex_weak (ls := [some (.ref (61)), some (.int (a0)), some (.int (r1)), none]) (le2_ok ⟨Or.inr rfl, Or.inr rfl, Or.inr rfl, Or.inl rfl, trivial⟩) ?_
        exact p41_j30_ok d F R40 a0 hR40 hW40 (h) (w) (r1) _ hp
set_option maxRecDepth 100000 in
set_option maxHeartbeats 4000000 in
theorem p41_w (F : Nat) (R40 : HS → Int32 → Option (HS)) (hW40 : ∀ (h : HS) (w : WF h) (a0 : Int32) (r : HS), R40 h a0 = some r → WF r) (h : HS) (w : WF h) (a0 : Int32) (r : HS) (hp : p41 F R40 h a0 = some r) : WF r := by
  unfold p41 at hp
  obtain ⟨r1, hr2, hp⟩ := bind_some hp
  try dsimp only at hp
  by_cases hc3 : (r1) < ((10000) : Int32)
  · rw [if_pos hc3] at hp
    exact p41_j26_w F R40 a0 hW40 (h) (w) (r1) _ hp
  · rw [if_neg hc3] at hp
    by_cases hc4 : (r1) < ((10010) : Int32)
    · rw [if_pos hc4] at hp
      exact p41_j30_w F R40 a0 hW40 (h) (w) (r1) _ hp
    · rw [if_neg hc4] at hp
      by_cases hc5 : (r1) < ((10021) : Int32)
      · rw [if_pos hc5] at hp
        exact p41_j26_w F R40 a0 hW40 (h) (w) (r1) _ hp
      · rw [if_neg hc5] at hp
        exact p41_j30_w F R40 a0 hW40 (h) (w) (r1) _ hp
theorem f40_0 : fetch 40 0 = some (.iconst (-1), 0, 0, 0) := rfl
theorem f40_1 : fetch 40 1 = some (.istore_n 2, 0, 0, 0) := rfl
theorem f40_2 : fetch 40 2 = some (.iconst 0, 0, 0, 0) := rfl
theorem f40_3 : fetch 40 3 = some (.istore_n 3, 0, 0, 0) := rfl
theorem f40_4 : fetch 40 4 = some (.iload_n 3, 0, 0, 0) := rfl
theorem f40_5 : fetch 40 5 = some (.sipush 400, 0, 0, 0) := rfl
theorem f40_8 : fetch 40 8 = some (.if_icmp .ge 100, 108, 0, 0) := rfl
theorem f40_11 : fetch 40 11 = some (.aload_n 0, 0, 0, 0) := rfl
theorem f40_12 : fetch 40 12 = some (.getfield 38, 2, 3, 0) := rfl
theorem f40_15 : fetch 40 15 = some (.ifCond .ne 93, 108, 0, 0) := rfl
theorem f40_18 : fetch 40 18 = some (.aload_n 0, 0, 0, 0) := rfl
theorem f40_19 : fetch 40 19 = some (.iload_n 1, 0, 0, 0) := rfl
theorem f40_20 : fetch 40 20 = some (.invokevirtual 83, 41, 1, 0) := rfl
theorem f40_23 : fetch 40 23 = some (.iconst 0, 0, 0, 0) := rfl
theorem f40_24 : fetch 40 24 = some (.istore 4, 0, 0, 0) := rfl
theorem f40_26 : fetch 40 26 = some (.iload 4, 0, 0, 0) := rfl
theorem f40_28 : fetch 40 28 = some (.sipush 400, 0, 0, 0) := rfl
theorem f40_31 : fetch 40 31 = some (.if_icmp .ge 31, 62, 0, 0) := rfl
theorem f40_34 : fetch 40 34 = some (.aload_n 0, 0, 0, 0) := rfl
theorem f40_35 : fetch 40 35 = some (.sipush 10047, 0, 0, 0) := rfl
theorem f40_38 : fetch 40 38 = some (.invokevirtual 57, 33, 1, 0) := rfl
theorem f40_41 : fetch 40 41 = some (.ifCond .eq 21, 62, 0, 0) := rfl
theorem f40_44 : fetch 40 44 = some (.aload_n 0, 0, 0, 0) := rfl
theorem f40_45 : fetch 40 45 = some (.iload_n 1, 0, 0, 0) := rfl
theorem f40_46 : fetch 40 46 = some (.invokevirtual 83, 41, 1, 0) := rfl
theorem f40_49 : fetch 40 49 = some (.aload_n 0, 0, 0, 0) := rfl
theorem f40_50 : fetch 40 50 = some (.sipush 10047, 0, 0, 0) := rfl
theorem f40_53 : fetch 40 53 = some (.invokevirtual 80, 34, 1, 0) := rfl
theorem f40_56 : fetch 40 56 = some (.iinc 4 1, 0, 0, 0) := rfl
theorem f40_59 : fetch 40 59 = some (.goto (-33), 26, 0, 0) := rfl
theorem f40_62 : fetch 40 62 = some (.iload_n 2, 0, 0, 0) := rfl
theorem f40_63 : fetch 40 63 = some (.iconst (-1), 0, 0, 0) := rfl
theorem f40_64 : fetch 40 64 = some (.if_icmp .eq 8, 72, 0, 0) := rfl
theorem f40_67 : fetch 40 67 = some (.aload_n 0, 0, 0, 0) := rfl
theorem f40_68 : fetch 40 68 = some (.iload_n 2, 0, 0, 0) := rfl
theorem f40_69 : fetch 40 69 = some (.invokevirtual 80, 34, 1, 0) := rfl
theorem f40_72 : fetch 40 72 = some (.aload_n 0, 0, 0, 0) := rfl
theorem f40_73 : fetch 40 73 = some (.invokevirtual 53, 31, 0, 0) := rfl
theorem f40_76 : fetch 40 76 = some (.istore_n 2, 0, 0, 0) := rfl
theorem f40_77 : fetch 40 77 = some (.iload_n 2, 0, 0, 0) := rfl
theorem f40_78 : fetch 40 78 = some (.sipush 10045, 0, 0, 0) := rfl
theorem f40_81 : fetch 40 81 = some (.if_icmp .eq 11, 92, 0, 0) := rfl
theorem f40_84 : fetch 40 84 = some (.iload_n 2, 0, 0, 0) := rfl
theorem f40_85 : fetch 40 85 = some (.sipush 10046, 0, 0, 0) := rfl
theorem f40_88 : fetch 40 88 = some (.if_icmp .eq 4, 92, 0, 0) := rfl
theorem f40_91 : fetch 40 91 = some (.return_, 0, 0, 0) := rfl
theorem f40_92 : fetch 40 92 = some (.aload_n 0, 0, 0, 0) := rfl
theorem f40_93 : fetch 40 93 = some (.dup, 0, 0, 0) := rfl
theorem f40_94 : fetch 40 94 = some (.getfield 34, 2, 2, 0) := rfl
theorem f40_97 : fetch 40 97 = some (.iconst 1, 0, 0, 0) := rfl
theorem f40_98 : fetch 40 98 = some (.iadd, 0, 0, 0) := rfl
theorem f40_99 : fetch 40 99 = some (.putfield 34, 2, 2, 0) := rfl
theorem f40_102 : fetch 40 102 = some (.iinc 3 1, 0, 0, 0) := rfl
theorem f40_105 : fetch 40 105 = some (.goto (-101), 4, 0, 0) := rfl
theorem f40_108 : fetch 40 108 = some (.return_, 0, 0, 0) := rfl
set_option maxRecDepth 100000 in
set_option maxHeartbeats 4000000 in
theorem p40_j92_ok (d : Nat) (F : Nat) (R41 : HS → Int32 → Option (HS)) (a0 : Int32) (K4 : HS → Int32 → Int32 → Option (HS)) (hR41 : ∀ (h : HS) (w : WF h) (a0 : Int32) (r : HS), R41 h a0 = some r → ex (d + 0) 41 (ent 41 [.ref (61), .int (a0)] h) = some (none, r)) (hW41 : ∀ (h : HS) (w : WF h) (a0 : Int32) (r : HS), R41 h a0 = some r → WF r) (hK4 : ∀ (h : HS) (w : WF h) (u2 : Int32) (u3 : Int32) (r : HS), K4 h u2 u3 = some r → ex (d + 1) 40 (4, [some (.ref (61)), some (.int (a0)), some (.int (u2)), some (.int (u3)), none], [], h) = some (none, r)) (h : HS) (w : WF h) (v2 : Int32) (v3 : Int32) (r : HS) (hp : p40_j92 F R41 a0 K4 h v2 v3 = some r) : ex (d + 1) 40 (92, [some (.ref (61)), some (.int (a0)), some (.int (v2)), some (.int (v3)), none], [], h) = some (none, r) := by
  unfold p40_j92 at hp
  refine e_aload_n f40_92 rfl ?_
  refine e_dup f40_93 rfl ?_
  refine e_getI f40_94 (WF.t w 61 (by decide)) (by decide) ?_
  refine e_iconst (v := 1) f40_97 (by decide) ?_
  refine e_iadd f40_98 ?_
  refine e_putI f40_99 (WF.t w 61 (by decide)) rfl ?_
  refine e_iinc (ls2 := [some (.ref (61)), some (.int (a0)), some (.int (v2)), some (.int ((v3) + 1)), none]) f40_102 (by decide) rfl rfl ?_
  refine e_goto f40_105 ?_
  refine ex_weak (ls := [some (.ref (61)), some (.int (a0)), some (.int (v2)), some (.int ((v3) + 1)), none]) (le2_ok ⟨Or.inr rfl, Or.inr rfl, Or.inr rfl, Or.inr rfl, Or.inl rfl, trivial⟩) ?_
  exact hK4 (hsI (h) (61) 2 ((hI (h) (61) 2) + (1))) (w) (v2) ((v3) + 1) _ hp
set_option maxRecDepth 100000 in
set_option maxHeartbeats 4000000 in
theorem p40_j92_w (F : Nat) (R41 : HS → Int32 → Option (HS)) (a0 : Int32) (K4 : HS → Int32 → Int32 → Option (HS)) (hW41 : ∀ (h : HS) (w : WF h) (a0 : Int32) (r : HS), R41 h a0 = some r → WF r) (hK4 : ∀ (h : HS) (w : WF h) (u2 : Int32) (u3 : Int32) (r : HS), K4 h u2 u3 = some r → WF r) (h : HS) (w : WF h) (v2 : Int32) (v3 : Int32) (r : HS) (hp : p40_j92 F R41 a0 K4 h v2 v3 = some r) : WF r := by
  unfold p40_j92 at hp
  exact hK4 (hsI (h) (61) 2 ((hI (h) (61) 2) + (1))) (w) (v2) ((v3) + 1) _ hp
set_option maxRecDepth 100000 in
set_option maxHeartbeats 4000000 in
theorem p40_j72_ok (d : Nat) (F : Nat) (R41 : HS → Int32 → Option (HS)) (a0 : Int32) (K4 : HS → Int32 → Int32 → Option (HS)) (hR41 : ∀ (h : HS) (w : WF h) (a0 : Int32) (r : HS), R41 h a0 = some r → ex (d + 0) 41 (ent 41 [.ref (61), .int (a0)] h) = some (none, r)) (hW41 : ∀ (h : HS) (w : WF h) (a0 : Int32) (r : HS), R41 h a0 = some r → WF r) (hK4 : ∀ (h : HS) (w : WF h) (u2 : Int32) (u3 : Int32) (r : HS), K4 h u2 u3 = some r → ex (d + 1) 40 (4, [some (.ref (61)), some (.int (a0)), some (.int (u2)), some (.int (u3)), none], [], h) = some (none, r)) (h : HS) (w : WF h) (v3 : Int32) (r : HS) (hp : p40_j72 F R41 a0 K4 h v3 = some r) : ex (d + 1) 40 (72, [some (.ref (61)), some (.int (a0)), none, some (.int (v3)), none], [], h) = some (none, r) := by
  unfold p40_j72 at hp
  refine e_aload_n f40_72 rfl ?_
  obtain ⟨r16, hr17, hp⟩ := bind_some hp
  try dsimp only at hp
  refine e_callV (st := []) (o := 61) (as := []) f40_73 (by decide) rfl rfl (Nat.le_of_ble_eq_true rfl) (WF.t w 61 (by decide)) (Nat.le_of_ble_eq_true rfl) (p31_ok d (h) w r16 hr17) ?_
  show ex _ 40 (76, [some (.ref (61)), some (.int (a0)), none, some (.int (v3)), none], [.int (r16)], h) = _
  refine e_istore_n (ls2 := [some (.ref (61)), some (.int (a0)), some (.int (r16)), some (.int (v3)), none]) f40_76 (Nat.le_of_ble_eq_true rfl) rfl ?_
  refine e_iload_n f40_77 rfl ?_
  refine e_sipush (v := 10045) f40_78 (by decide) ?_
  by_cases hc18 : (r16) = ((10045) : Int32)
  · rw [if_pos hc18] at hp
    refine e_icmp_eq_t f40_81 hc18 ?_
    refine ex_weak (ls := [some (.ref (61)), some (.int (a0)), some (.int (r16)), some (.int (v3)), none]) (le2_ok ⟨Or.inr rfl, Or.inr rfl, Or.inr rfl, Or.inr rfl, Or.inl rfl, trivial⟩) ?_
    exact p40_j92_ok d F R41 a0 (K4) hR41 hW41 (hK4) (h) (w) (r16) (v3) _ hp
  · rw [if_neg hc18] at hp
    refine e_icmp_eq_f f40_81 hc18 ?_
    refine e_iload_n f40_84 rfl ?_
    refine e_sipush (v := 10046) f40_85 (by decide) ?_
    by_cases hc19 : (r16) = ((10046) : Int32)
    · rw [if_pos hc19] at hp
      refine e_icmp_eq_t f40_88 hc19 ?_
      refine ex_weak (ls := [some (.ref (61)), some (.int (a0)), some (.int (r16)), some (.int (v3)), none]) (le2_ok ⟨Or.inr rfl, Or.inr rfl, Or.inr rfl, Or.inr rfl, Or.inl rfl, trivial⟩) ?_
      exact p40_j92_ok d F R41 a0 (K4) hR41 hW41 (hK4) (h) (w) (r16) (v3) _ hp
    · rw [if_neg hc19] at hp
      refine e_icmp_eq_f f40_88 hc19 ?_
      have hp := Option.some.inj hp
      subst hp
      exact e_return f40_91
set_option maxRecDepth 100000 in
set_option maxHeartbeats 4000000 in
theorem p40_j72_w (F : Nat) (R41 : HS → Int32 → Option (HS)) (a0 : Int32) (K4 : HS → Int32 → Int32 → Option (HS)) (hW41 : ∀ (h : HS) (w : WF h) (a0 : Int32) (r : HS), R41 h a0 = some r → WF r) (hK4 : ∀ (h : HS) (w : WF h) (u2 : Int32) (u3 : Int32) (r : HS), K4 h u2 u3 = some r → WF r) (h : HS) (w : WF h) (v3 : Int32) (r : HS) (hp : p40_j72 F R41 a0 K4 h v3 = some r) : WF r := by
  unfold p40_j72 at hp
  obtain ⟨r16, hr17, hp⟩ := bind_some hp
  try dsimp only at hp
  by_cases hc18 : (r16) = ((10045) : Int32)
  · rw [if_pos hc18] at hp
    exact p40_j92_w F R41 a0 (K4) hW41 (hK4) (h) (w) (r16) (v3) _ hp
  · rw [if_neg hc18] at hp
    by_cases hc19 : (r16) = ((10046) : Int32)
    · rw [if_pos hc19] at hp
      exact p40_j92_w F R41 a0 (K4) hW41 (hK4) (h) (w) (r16) (v3) _ hp
    · rw [if_neg hc19] at hp
      have hp := Option.some.inj hp
      subst hp
      exact (w)
set_option maxRecDepth 100000 in
set_option maxHeartbeats 4000000 in
theorem p40_j62_ok (d : Nat) (F : Nat) (R41 : HS → Int32 → Option (HS)) (a0 : Int32) (K4 : HS → Int32 → Int32 → Option (HS)) (hR41 : ∀ (h : HS) (w : WF h) (a0 : Int32) (r : HS), R41 h a0 = some r → ex (d + 0) 41 (ent 41 [.ref (61), .int (a0)] h) = some (none, r)) (hW41 : ∀ (h : HS) (w : WF h) (a0 : Int32) (r : HS), R41 h a0 = some r → WF r) (hK4 : ∀ (h : HS) (w : WF h) (u2 : Int32) (u3 : Int32) (r : HS), K4 h u2 u3 = some r → ex (d + 1) 40 (4, [some (.ref (61)), some (.int (a0)), some (.int (u2)), some (.int (u3)), none], [], h) = some (none, r)) (h : HS) (w : WF h) (v2 : Int32) (v3 : Int32) (r : HS) (hp : p40_j62 F R41 a0 K4 h v2 v3 = some r) : ex (d + 1) 40 (62, [some (.ref (61)), some (.int (a0)), some (.int (v2)), some (.int (v3)), none], [], h) = some (none, r) := by
  unfold p40_j62 at hp
  refine e_iload_n f40_62 rfl ?_
  refine e_iconst (v := -1) f40_63 (by decide) ?_
  by_cases hc13 : (v2) = (((-1)) : Int32)
  · rw [if_pos hc13] at hp
    refine e_icmp_eq_t f40_64 hc13 ?_
    refine ex_weak (ls := [some (.ref (61)), some (.int (a0)), none, some (.int (v3)), none]) (le2_ok ⟨Or.inr rfl, Or.inr rfl, Or.inl rfl, Or.inr rfl, Or.inl rfl, trivial⟩) ?_
    exact p40_j72_ok d F R41 a0 (K4) hR41 hW41 (hK4) (h) (w) (v3) _ hp
  · rw [if_neg hc13] at hp
    refine e_icmp_eq_f f40_64 hc13 ?_
    refine e_aload_n f40_67 rfl ?_
    refine e_iload_n f40_68 rfl ?_
    obtain ⟨r14, hr15, hp⟩ := bind_some hp
    try dsimp only at hp
    refine e_callV (st := []) (o := 61) (as := [.int (v2)]) f40_69 (by decide) rfl rfl (Nat.le_of_ble_eq_true rfl) (WF.t w 61 (by decide)) (Nat.le_of_ble_eq_true rfl) (p34_ok d (h) w (v2) r14 hr15) ?_
    show ex _ 40 (72, [some (.ref (61)), some (.int (a0)), some (.int (v2)), some (.int (v3)), none], [], r14) = _
    refine ex_weak (ls := [some (.ref (61)), some (.int (a0)), none, some (.int (v3)), none]) (le2_ok ⟨Or.inr rfl, Or.inr rfl, Or.inl rfl, Or.inr rfl, Or.inl rfl, trivial⟩) ?_
    exact p40_j72_ok d F R41 a0 (K4) hR41 hW41 (hK4) (r14) ((p34_w (h) w (v2)  r14 hr15)) (v3) _ hp
set_option maxRecDepth 100000 in
set_option maxHeartbeats 4000000 in
theorem p40_j62_w (F : Nat) (R41 : HS → Int32 → Option (HS)) (a0 : Int32) (K4 : HS → Int32 → Int32 → Option (HS)) (hW41 : ∀ (h : HS) (w : WF h) (a0 : Int32) (r : HS), R41 h a0 = some r → WF r) (hK4 : ∀ (h : HS) (w : WF h) (u2 : Int32) (u3 : Int32) (r : HS), K4 h u2 u3 = some r → WF r) (h : HS) (w : WF h) (v2 : Int32) (v3 : Int32) (r : HS) (hp : p40_j62 F R41 a0 K4 h v2 v3 = some r) : WF r := by
  unfold p40_j62 at hp
  by_cases hc13 : (v2) = (((-1)) : Int32)
  · rw [if_pos hc13] at hp
    exact p40_j72_w F R41 a0 (K4) hW41 (hK4) (h) (w) (v3) _ hp
  · rw [if_neg hc13] at hp
    obtain ⟨r14, hr15, hp⟩ := bind_some hp
    try dsimp only at hp
    exact p40_j72_w F R41 a0 (K4) hW41 (hK4) (r14) ((p34_w (h) w (v2)  r14 hr15)) (v3) _ hp
set_option maxRecDepth 100000 in
set_option maxHeartbeats 4000000 in
theorem p40_L26_ok (d : Nat) (F : Nat) (R41 : HS → Int32 → Option (HS)) (a0 : Int32) (K4 : HS → Int32 → Int32 → Option (HS)) (hR41 : ∀ (h : HS) (w : WF h) (a0 : Int32) (r : HS), R41 h a0 = some r → ex (d + 0) 41 (ent 41 [.ref (61), .int (a0)] h) = some (none, r)) (hW41 : ∀ (h : HS) (w : WF h) (a0 : Int32) (r : HS), R41 h a0 = some r → WF r) (hK4 : ∀ (h : HS) (w : WF h) (u2 : Int32) (u3 : Int32) (r : HS), K4 h u2 u3 = some r → ex (d + 1) 40 (4, [some (.ref (61)), some (.int (a0)), some (.int (u2)), some (.int (u3)), none], [], h) = some (none, r)) : ∀ (n : Nat) (h : HS) (w : WF h) (v2 : Int32) (v3 : Int32) (v4 : Int32) (r : HS), p40_L26 F R41 a0 K4 n h v2 v3 v4 = some r → ex (d + 1) 40 (26, [some (.ref (61)), some (.int (a0)), some (.int (v2)), some (.int (v3)), some (.int (v4))], [], h) = some (none, r) := by
  intro n
  induction n with
  | zero => intro h w v2 v3 v4 r hp; cases hp
  | succ n ih =>
    intro h w v2 v3 v4 r hp
    unfold p40_L26 at hp
    refine e_iload f40_26 rfl ?_
    refine e_sipush (v := 400) f40_28 (by decide) ?_
    by_cases hc5 : (v4) < ((400) : Int32)
    · rw [if_pos hc5] at hp
      refine e_icmp_ge_f f40_31 hc5 ?_
      refine e_aload_n f40_34 rfl ?_
      refine e_sipush (v := 10047) f40_35 (by decide) ?_
      obtain ⟨r6, hr7, hp⟩ := bind_some hp
      try dsimp only at hp
      refine e_callV (st := []) (o := 61) (as := [.int (10047)]) f40_38 (by decide) rfl rfl (Nat.le_of_ble_eq_true rfl) (WF.t w 61 (by decide)) (Nat.le_of_ble_eq_true rfl) (p33_ok d (h) w (10047) r6 hr7) ?_
      show ex _ 40 (41, [some (.ref (61)), some (.int (a0)), some (.int (v2)), some (.int (v3)), some (.int (v4))], [.int (r6.1)], r6.2) = _
      by_cases hc8 : (r6.1) = (0 : Int32)
      · rw [if_pos hc8] at hp
        refine e_if_eq_t f40_41 hc8 ?_
        refine ex_weak (ls := [some (.ref (61)), some (.int (a0)), some (.int (v2)), some (.int (v3)), none]) (le2_ok ⟨Or.inr rfl, Or.inr rfl, Or.inr rfl, Or.inr rfl, Or.inl rfl, trivial⟩) ?_
        exact p40_j62_ok d F R41 a0 (K4) hR41 hW41 (hK4) (r6.2) ((p33_w (h) w (10047)  r6 hr7)) (v2) (v3) _ hp
      · rw [if_neg hc8] at hp
        refine e_if_eq_f f40_41 hc8 ?_
        refine e_aload_n f40_44 rfl ?_
        refine e_iload_n f40_45 rfl ?_
        obtain ⟨r9, hr10, hp⟩ := bind_some hp
        try dsimp only at hp
        refine e_callV (st := []) (o := 61) (as := [.int (a0)]) f40_46 (by decide) rfl rfl (Nat.le_of_ble_eq_true rfl) (WF.t (p33_w (h) w (10047)  r6 hr7) 61 (by decide)) (Nat.le_of_ble_eq_true rfl) (hR41 (r6.2) (p33_w (h) w (10047)  r6 hr7) (a0)  r9 hr10) ?_
        show ex _ 40 (49, [some (.ref (61)), some (.int (a0)), some (.int (v2)), some (.int (v3)), some (.int (v4))], [], r9) = _
        refine e_aload_n f40_49 rfl ?_
        refine e_sipush (v := 10047) f40_50 (by decide) ?_
        obtain ⟨r11, hr12, hp⟩ := bind_some hp
        try dsimp only at hp
        refine e_callV (st := []) (o := 61) (as := [.int (10047)]) f40_53 (by decide) rfl rfl (Nat.le_of_ble_eq_true rfl) (WF.t (hW41 (r6.2) (p33_w (h) w (10047)  r6 hr7) (a0)  r9 hr10) 61 (by decide)) (Nat.le_of_ble_eq_true rfl) (p34_ok d (r9) (hW41 (r6.2) (p33_w (h) w (10047)  r6 hr7) (a0)  r9 hr10) (10047) r11 hr12) ?_
        show ex _ 40 (56, [some (.ref (61)), some (.int (a0)), some (.int (v2)), some (.int (v3)), some (.int (v4))], [], r11) = _
        refine e_iinc (ls2 := [some (.ref (61)), some (.int (a0)), some (.int (v2)), some (.int (v3)), some (.int ((v4) + 1))]) f40_56 (by decide) rfl rfl ?_
        refine e_goto f40_59 ?_
        refine ex_weak (ls := [some (.ref (61)), some (.int (a0)), some (.int (v2)), some (.int (v3)), some (.int ((v4) + 1))]) (le2_ok ⟨Or.inr rfl, Or.inr rfl, Or.inr rfl, Or.inr rfl, Or.inr rfl, trivial⟩) ?_
        exact ih (r11) ((p34_w (r9) (hW41 (r6.2) (p33_w (h) w (10047)  r6 hr7) (a0)  r9 hr10) (10047)  r11 hr12)) (v2) (v3) ((v4) + 1) _ hp
    · rw [if_neg hc5] at hp
      refine e_icmp_ge_t f40_31 hc5 ?_
      refine ex_weak (ls := [some (.ref (61)), some (.int (a0)), some (.int (v2)), some (.int (v3)), none]) (le2_ok ⟨Or.inr rfl, Or.inr rfl, Or.inr rfl, Or.inr rfl, Or.inl rfl, trivial⟩) ?_
      exact p40_j62_ok d F R41 a0 (K4) hR41 hW41 (hK4) (h) (w) (v2) (v3) _ hp
set_option maxRecDepth 100000 in
set_option maxHeartbeats 4000000 in
theorem p40_L26_w (F : Nat) (R41 : HS → Int32 → Option (HS)) (a0 : Int32) (K4 : HS → Int32 → Int32 → Option (HS)) (hW41 : ∀ (h : HS) (w : WF h) (a0 : Int32) (r : HS), R41 h a0 = some r → WF r) (hK4 : ∀ (h : HS) (w : WF h) (u2 : Int32) (u3 : Int32) (r : HS), K4 h u2 u3 = some r → WF r) : ∀ (n : Nat) (h : HS) (w : WF h) (v2 : Int32) (v3 : Int32) (v4 : Int32) (r : HS), p40_L26 F R41 a0 K4 n h v2 v3 v4 = some r → WF r := by
  intro n
  induction n with
  | zero => intro h w v2 v3 v4 r hp; cases hp
  | succ n ih =>
    intro h w v2 v3 v4 r hp
    unfold p40_L26 at hp
    by_cases hc5 : (v4) < ((400) : Int32)
    · rw [if_pos hc5] at hp
      obtain ⟨r6, hr7, hp⟩ := bind_some hp
      try dsimp only at hp
      by_cases hc8 : (r6.1) = (0 : Int32)
      · rw [if_pos hc8] at hp
        exact p40_j62_w F R41 a0 (K4) hW41 (hK4) (r6.2) ((p33_w (h) w (10047)  r6 hr7)) (v2) (v3) _ hp
      · rw [if_neg hc8] at hp
        obtain ⟨r9, hr10, hp⟩ := bind_some hp
        try dsimp only at hp
        obtain ⟨r11, hr12, hp⟩ := bind_some hp
        try dsimp only at hp
        exact ih (r11) ((p34_w (r9) (hW41 (r6.2) (p33_w (h) w (10047)  r6 hr7) (a0)  r9 hr10) (10047)  r11 hr12)) (v2) (v3) ((v4) + 1) _ hp
    · rw [if_neg hc5] at hp
      exact p40_j62_w F R41 a0 (K4) hW41 (hK4) (h) (w) (v2) (v3) _ hp
set_option maxRecDepth 100000 in
set_option maxHeartbeats 4000000 in
theorem p40_L4_ok (d : Nat) (F : Nat) (R41 : HS → Int32 → Option (HS)) (a0 : Int32) (hR41 : ∀ (h : HS) (w : WF h) (a0 : Int32) (r : HS), R41 h a0 = some r → ex (d + 0) 41 (ent 41 [.ref (61), .int (a0)] h) = some (none, r)) (hW41 : ∀ (h : HS) (w : WF h) (a0 : Int32) (r : HS), R41 h a0 = some r → WF r) : ∀ (n : Nat) (h : HS) (w : WF h) (v2 : Int32) (v3 : Int32) (r : HS), p40_L4 F R41 a0 n h v2 v3 = some r → ex (d + 1) 40 (4, [some (.ref (61)), some (.int (a0)), some (.int (v2)), some (.int (v3)), none], [], h) = some (none, r) := by
  intro n
  induction n with
  | zero => intro h w v2 v3 r hp; cases hp
  | succ n ih =>
    intro h w v2 v3 r hp
    unfold p40_L4 at hp
    refine e_iload_n f40_4 rfl ?_
    refine e_sipush (v := 400) f40_5 (by decide) ?_
    by_cases hc1 : (v3) < ((400) : Int32)
    · rw [if_pos hc1] at hp
      refine e_icmp_ge_f f40_8 hc1 ?_
      refine e_aload_n f40_11 rfl ?_
      refine e_getI f40_12 (WF.t w 61 (by decide)) (by decide) ?_
      by_cases hc2 : (hI (h) (61) 3) = (0 : Int32)
      · rw [if_pos hc2] at hp
        refine e_if_ne_f f40_15 hc2 ?_
        refine e_aload_n f40_18 rfl ?_
        refine e_iload_n f40_19 rfl ?_
        obtain ⟨r3, hr4, hp⟩ := bind_some hp
        try dsimp only at hp
        refine e_callV (st := []) (o := 61) (as := [.int (a0)]) f40_20 (by decide) rfl rfl (Nat.le_of_ble_eq_true rfl) (WF.t w 61 (by decide)) (Nat.le_of_ble_eq_true rfl) (hR41 (h) w (a0)  r3 hr4) ?_
        show ex _ 40 (23, [some (.ref (61)), some (.int (a0)), some (.int (v2)), some (.int (v3)), none], [], r3) = _
        refine e_iconst (v := 0) f40_23 (by decide) ?_
        refine e_istore (ls2 := [some (.ref (61)), some (.int (a0)), some (.int (v2)), some (.int (v3)), some (.int (0))]) f40_24 (Nat.le_of_ble_eq_true rfl) rfl ?_
        refine ex_weak (ls := [some (.ref (61)), some (.int (a0)), some (.int (v2)), some (.int (v3)), some (.int (0))]) (le2_ok ⟨Or.inr rfl, Or.inr rfl, Or.inr rfl, Or.inr rfl, Or.inr rfl, trivial⟩) ?_
        exact p40_L26_ok d F R41 a0 ((p40_L4 F R41 a0 n)) hR41 hW41 (ih) F (r3) ((hW41 (h) w (a0)  r3 hr4)) (v2) (v3) (0) _ hp
      · rw [if_neg hc2] at hp
        refine e_if_ne_t f40_15 hc2 ?_
        have hp := Option.some.inj hp
        subst hp
        exact e_return f40_108
    · rw [if_neg hc1] at hp
      refine e_icmp_ge_t f40_8 hc1 ?_
      have hp := Option.some.inj hp
      subst hp
      exact e_return f40_108
set_option maxRecDepth 100000 in
set_option maxHeartbeats 4000000 in
theorem p40_L4_w (F : Nat) (R41 : HS → Int32 → Option (HS)) (a0 : Int32) (hW41 : ∀ (h : HS) (w : WF h) (a0 : Int32) (r : HS), R41 h a0 = some r → WF r) : ∀ (n : Nat) (h : HS) (w : WF h) (v2 : Int32) (v3 : Int32) (r : HS), p40_L4 F R41 a0 n h v2 v3 = some r → WF r := by
  intro n
  induction n with
  | zero => intro h w v2 v3 r hp; cases hp
  | succ n ih =>
    intro h w v2 v3 r hp
    unfold p40_L4 at hp
    by_cases hc1 : (v3) < ((400) : Int32)
    · rw [if_pos hc1] at hp
      by_cases hc2 : (hI (h) (61) 3) = (0 : Int32)
      · rw [if_pos hc2] at hp
        obtain ⟨r3, hr4, hp⟩ := bind_some hp
        try dsimp only at hp
        exact p40_L26_w F R41 a0 ((p40_L4 F R41 a0 n)) hW41 (ih) F (r3) ((hW41 (h) w (a0)  r3 hr4)) (v2) (v3) (0) _ hp
      · rw [if_neg hc2] at hp
        have hp := Option.some.inj hp
        subst hp
        exact (w)
    · rw [if_neg hc1] at hp
      have hp := Option.some.inj hp
      subst hp
      exact (w)
set_option maxRecDepth 100000 in
set_option maxHeartbeats 4000000 in
theorem p40_ok (d : Nat) (F : Nat) (R41 : HS → Int32 → Option (HS)) (hR41 : ∀ (h : HS) (w : WF h) (a0 : Int32) (r : HS), R41 h a0 = some r → ex (d + 0) 41 (ent 41 [.ref (61), .int (a0)] h) = some (none, r)) (hW41 : ∀ (h : HS) (w : WF h) (a0 : Int32) (r : HS), R41 h a0 = some r → WF r) (h : HS) (w : WF h) (a0 : Int32) (r : HS) (hp : p40 F R41 h a0 = some r) : ex (d + 1) 40 (ent 40 [.ref (61), .int (a0)] h) = some (none, r) := by
  rw [show ent 40 [.ref (61), .int (a0)] h = (0, [some (.ref (61)), some (.int (a0)), none, none, none], [], h) from by  rfl]
  refine ex_weak (ls := [some (.ref (61)), some (.int (a0)), none, none, none]) (le2_ok ⟨Or.inr rfl, Or.inr rfl, Or.inr rfl, Or.inr rfl, Or.inr rfl, trivial⟩) ?_
  unfold p40 at hp
  refine e_iconst (v := -1) f40_0 (by decide) ?_
  refine e_istore_n (ls2 := [some (.ref (61)), some (.int (a0)), some (.int ((-1))), none, none]) f40_1 (Nat.le_of_ble_eq_true rfl) rfl ?_
  refine e_iconst (v := 0) f40_2 (by decide) ?_
  refine e_istore_n (ls2 := [some (.ref (61)), some (.int (a0)), some (.int ((-1))), some (.int (0)), none]) f40_3 (Nat.le_of_ble_eq_true rfl) rfl ?_
  refine ex_weak (ls := [some (.ref (61)), some (.int (a0)), some (.int ((-1))), some (.int (0)), none]) (le2_ok ⟨Or.inr rfl, Or.inr rfl, Or.inr rfl, Or.inr rfl, Or.inl rfl, trivial⟩) ?_
  exact p40_L4_ok d F R41 a0 hR41 hW41 F (h) (w) ((-1)) (0) _ hp
set_option maxRecDepth 100000 in
set_option maxHeartbeats 4000000 in
theorem p40_w (F : Nat) (R41 : HS → Int32 → Option (HS)) (hW41 : ∀ (h : HS) (w : WF h) (a0 : Int32) (r : HS), R41 h a0 = some r → WF r) (h : HS) (w : WF h) (a0 : Int32) (r : HS) (hp : p40 F R41 h a0 = some r) : WF r := by
  unfold p40 at hp
  exact p40_L4_w F R41 a0 hW41 F (h) (w) ((-1)) (0) _ hp
theorem qr40_41_w (F : Nat) : ∀ (n : Nat), (∀ (h : HS) (w : WF h) (a0 : Int32) (r : HS), (qr40_41 F n).1 h a0 = some r → WF r) ∧ (∀ (h : HS) (w : WF h) (a0 : Int32) (r : HS), (qr40_41 F n).2 h a0 = some r → WF r)
  | 0 => ⟨fun h w a0 r hp => (by cases (show none = some r from hp)), fun h w a0 r hp => (by cases (show none = some r from hp))⟩
  | n + 1 => by
    have ih := qr40_41_w F n
    exact ⟨fun h w a0 r hp => p40_w F (qr40_41 F n).2 ih.2 h w a0 r hp, fun h w a0 r hp => p41_w F (qr40_41 F n).1 ih.1 h w a0 r hp⟩
theorem qr40_41_ok (F : Nat) : ∀ (n d : Nat), n + 1 ≤ d → (∀ (h : HS) (w : WF h) (a0 : Int32) (r : HS), (qr40_41 F n).1 h a0 = some r → ex d 40 (ent 40 [.ref (61), .int (a0)] h) = some (none, r)) ∧ (∀ (h : HS) (w : WF h) (a0 : Int32) (r : HS), (qr40_41 F n).2 h a0 = some r → ex d 41 (ent 41 [.ref (61), .int (a0)] h) = some (none, r))
  | 0, d, _ => ⟨fun h w a0 r hp => (by cases (show none = some r from hp)), fun h w a0 r hp => (by cases (show none = some r from hp))⟩
  | n + 1, d, hd => by
    have ih := qr40_41_ok F n (d - 1) (by omega)
    have iw := qr40_41_w F n
    have e0 : d - 1 + 1 = d := by omega
    have f0 : d - 1 + (1 - 1) = d - 1 := by omega
    have e1 : d - 1 + 1 = d := by omega
    have f1 : d - 1 + (1 - 1) = d - 1 := by omega
    exact ⟨fun h w a0 r hp => by
      have z := p40_ok (d - 1) F (qr40_41 F n).2 (fun h w a0 r hp => by show ex (d - 1 + 0) _ _ = _; rw [show d - 1 + 0 = d - 1 by omega]; exact ih.2 h w a0 r hp) iw.2 h w a0 r hp
      rw [e0] at z
      exact z, fun h w a0 r hp => by
      have z := p41_ok (d - 1) F (qr40_41 F n).1 (fun h w a0 r hp => by show ex (d - 1 + 0) _ _ = _; rw [show d - 1 + 0 = d - 1 by omega]; exact ih.1 h w a0 r hp) iw.1 h w a0 r hp
      rw [e1] at z
      exact z⟩
theorem t40_ok (d F : Nat) (h : HS) (w : WF h) (a0 : Int32) (r : HS) (hp : t40 F h a0 = some r) : ex (d + 31) 40 (ent 40 [.ref (61), .int (a0)] h) = some (none, r) := (qr40_41_ok F 30 (d + 31) (by omega)).1 h w a0 r hp
theorem t40_w (F : Nat) (h : HS) (w : WF h) (a0 : Int32) (r : HS) (hp : t40 F h a0 = some r) : WF r := (qr40_41_w F 30).1 h w a0 r hp
theorem t41_ok (d F : Nat) (h : HS) (w : WF h) (a0 : Int32) (r : HS) (hp : t41 F h a0 = some r) : ex (d + 31) 41 (ent 41 [.ref (61), .int (a0)] h) = some (none, r) := (qr40_41_ok F 30 (d + 31) (by omega)).2 h w a0 r hp
theorem t41_w (F : Nat) (h : HS) (w : WF h) (a0 : Int32) (r : HS) (hp : t41 F h a0 = some r) : WF r := (qr40_41_w F 30).2 h w a0 r hp
theorem f39_0 : fetch 39 0 = some (.aload_n 0, 0, 0, 0) := rfl
theorem f39_1 : fetch 39 1 = some (.invokevirtual 53, 31, 0, 0) := rfl
theorem f39_4 : fetch 39 4 = some (.istore_n 2, 0, 0, 0) := rfl
theorem f39_5 : fetch 39 5 = some (.iload_n 2, 0, 0, 0) := rfl
theorem f39_6 : fetch 39 6 = some (.sipush 10030, 0, 0, 0) := rfl
theorem f39_9 : fetch 39 9 = some (.if_icmp .eq 10, 19, 0, 0) := rfl
theorem f39_12 : fetch 39 12 = some (.iload_n 2, 0, 0, 0) := rfl
theorem f39_13 : fetch 39 13 = some (.sipush 10043, 0, 0, 0) := rfl
theorem f39_16 : fetch 39 16 = some (.if_icmp .ne 17, 33, 0, 0) := rfl
theorem f39_19 : fetch 39 19 = some (.iload_n 1, 0, 0, 0) := rfl
theorem f39_20 : fetch 39 20 = some (.bipush 10, 0, 0, 0) := rfl
theorem f39_22 : fetch 39 22 = some (.if_icmp .lt 11, 33, 0, 0) := rfl
theorem f39_25 : fetch 39 25 = some (.aload_n 0, 0, 0, 0) := rfl
theorem f39_26 : fetch 39 26 = some (.iconst 2, 0, 0, 0) := rfl
theorem f39_27 : fetch 39 27 = some (.invokevirtual 61, 32, 1, 0) := rfl
theorem f39_30 : fetch 39 30 = some (.goto 139, 169, 0, 0) := rfl
theorem f39_33 : fetch 39 33 = some (.aload_n 0, 0, 0, 0) := rfl
theorem f39_34 : fetch 39 34 = some (.sipush 10030, 0, 0, 0) := rfl
theorem f39_37 : fetch 39 37 = some (.invokevirtual 57, 33, 1, 0) := rfl
theorem f39_40 : fetch 39 40 = some (.ifCond .eq 20, 60, 0, 0) := rfl
theorem f39_43 : fetch 39 43 = some (.aload_n 0, 0, 0, 0) := rfl
theorem f39_44 : fetch 39 44 = some (.iload_n 1, 0, 0, 0) := rfl
theorem f39_45 : fetch 39 45 = some (.iconst 1, 0, 0, 0) := rfl
theorem f39_46 : fetch 39 46 = some (.iadd, 0, 0, 0) := rfl
theorem f39_47 : fetch 39 47 = some (.invokevirtual 77, 39, 1, 0) := rfl
theorem f39_50 : fetch 39 50 = some (.aload_n 0, 0, 0, 0) := rfl
theorem f39_51 : fetch 39 51 = some (.sipush 10030, 0, 0, 0) := rfl
theorem f39_54 : fetch 39 54 = some (.invokevirtual 80, 34, 1, 0) := rfl
theorem f39_57 : fetch 39 57 = some (.goto 112, 169, 0, 0) := rfl
theorem f39_60 : fetch 39 60 = some (.aload_n 0, 0, 0, 0) := rfl
theorem f39_61 : fetch 39 61 = some (.sipush 10043, 0, 0, 0) := rfl
theorem f39_64 : fetch 39 64 = some (.invokevirtual 57, 33, 1, 0) := rfl
theorem f39_67 : fetch 39 67 = some (.ifCond .eq 28, 95, 0, 0) := rfl
theorem f39_70 : fetch 39 70 = some (.aload_n 0, 0, 0, 0) := rfl
theorem f39_71 : fetch 39 71 = some (.iload_n 1, 0, 0, 0) := rfl
theorem f39_72 : fetch 39 72 = some (.iconst 1, 0, 0, 0) := rfl
theorem f39_73 : fetch 39 73 = some (.iadd, 0, 0, 0) := rfl
theorem f39_74 : fetch 39 74 = some (.invokevirtual 74, 38, 1, 0) := rfl
theorem f39_77 : fetch 39 77 = some (.aload_n 0, 0, 0, 0) := rfl
theorem f39_78 : fetch 39 78 = some (.sipush 10044, 0, 0, 0) := rfl
theorem f39_81 : fetch 39 81 = some (.invokevirtual 57, 33, 1, 0) := rfl
theorem f39_84 : fetch 39 84 = some (.ifCond .ne 85, 169, 0, 0) := rfl
theorem f39_87 : fetch 39 87 = some (.aload_n 0, 0, 0, 0) := rfl
theorem f39_88 : fetch 39 88 = some (.iconst 0, 0, 0, 0) := rfl
theorem f39_89 : fetch 39 89 = some (.invokevirtual 61, 32, 1, 0) := rfl
theorem f39_92 : fetch 39 92 = some (.goto 77, 169, 0, 0) := rfl
theorem f39_95 : fetch 39 95 = some (.aload_n 0, 0, 0, 0) := rfl
theorem f39_96 : fetch 39 96 = some (.iload_n 1, 0, 0, 0) := rfl
theorem f39_97 : fetch 39 97 = some (.invokevirtual 71, 40, 1, 0) := rfl
theorem f39_100 : fetch 39 100 = some (.aload_n 0, 0, 0, 0) := rfl
theorem f39_101 : fetch 39 101 = some (.invokevirtual 53, 31, 0, 0) := rfl
theorem f39_104 : fetch 39 104 = some (.istore_n 3, 0, 0, 0) := rfl
theorem f39_105 : fetch 39 105 = some (.iload_n 3, 0, 0, 0) := rfl
theorem f39_106 : fetch 39 106 = some (.sipush 10048, 0, 0, 0) := rfl
theorem f39_109 : fetch 39 109 = some (.if_icmp .lt 10, 119, 0, 0) := rfl
theorem f39_112 : fetch 39 112 = some (.iload_n 3, 0, 0, 0) := rfl
theorem f39_113 : fetch 39 113 = some (.sipush 10052, 0, 0, 0) := rfl
theorem f39_116 : fetch 39 116 = some (.if_icmp .le 9, 125, 0, 0) := rfl
theorem f39_119 : fetch 39 119 = some (.aload_n 0, 0, 0, 0) := rfl
theorem f39_120 : fetch 39 120 = some (.iconst 0, 0, 0, 0) := rfl
theorem f39_121 : fetch 39 121 = some (.invokevirtual 61, 32, 1, 0) := rfl
theorem f39_124 : fetch 39 124 = some (.return_, 0, 0, 0) := rfl
theorem f39_125 : fetch 39 125 = some (.aload_n 0, 0, 0, 0) := rfl
theorem f39_126 : fetch 39 126 = some (.dup, 0, 0, 0) := rfl
theorem f39_127 : fetch 39 127 = some (.getfield 41, 2, 4, 0) := rfl
theorem f39_130 : fetch 39 130 = some (.iconst 1, 0, 0, 0) := rfl
theorem f39_131 : fetch 39 131 = some (.iadd, 0, 0, 0) := rfl
theorem f39_132 : fetch 39 132 = some (.putfield 41, 2, 4, 0) := rfl
theorem f39_135 : fetch 39 135 = some (.aload_n 0, 0, 0, 0) := rfl
theorem f39_136 : fetch 39 136 = some (.getfield 41, 2, 4, 0) := rfl
theorem f39_139 : fetch 39 139 = some (.bipush 80, 0, 0, 0) := rfl
theorem f39_141 : fetch 39 141 = some (.if_icmp .le 8, 149, 0, 0) := rfl
theorem f39_144 : fetch 39 144 = some (.aload_n 0, 0, 0, 0) := rfl
theorem f39_145 : fetch 39 145 = some (.iconst 3, 0, 0, 0) := rfl
theorem f39_146 : fetch 39 146 = some (.invokevirtual 61, 32, 1, 0) := rfl
theorem f39_149 : fetch 39 149 = some (.aload_n 0, 0, 0, 0) := rfl
theorem f39_150 : fetch 39 150 = some (.dup, 0, 0, 0) := rfl
theorem f39_151 : fetch 39 151 = some (.getfield 34, 2, 2, 0) := rfl
theorem f39_154 : fetch 39 154 = some (.iconst 1, 0, 0, 0) := rfl
theorem f39_155 : fetch 39 155 = some (.iadd, 0, 0, 0) := rfl
theorem f39_156 : fetch 39 156 = some (.putfield 34, 2, 2, 0) := rfl
theorem f39_159 : fetch 39 159 = some (.aload_n 0, 0, 0, 0) := rfl
theorem f39_160 : fetch 39 160 = some (.iload_n 1, 0, 0, 0) := rfl
theorem f39_161 : fetch 39 161 = some (.invokevirtual 71, 40, 1, 0) := rfl
theorem f39_164 : fetch 39 164 = some (.aload_n 0, 0, 0, 0) := rfl
theorem f39_165 : fetch 39 165 = some (.iload_n 3, 0, 0, 0) := rfl
theorem f39_166 : fetch 39 166 = some (.invokevirtual 80, 34, 1, 0) := rfl
theorem f39_169 : fetch 39 169 = some (.return_, 0, 0, 0) := rfl
set_option maxRecDepth 100000 in
set_option maxHeartbeats 4000000 in
theorem p39_j119_ok (d : Nat) (F : Nat) (R38 : HS → Int32 → Option (HS)) (R39 : HS → Int32 → Option (HS)) (a0 : Int32) (hR38 : ∀ (h : HS) (w : WF h) (a0 : Int32) (r : HS), R38 h a0 = some r → ex (d + 31) 38 (ent 38 [.ref (61), .int (a0)] h) = some (none, r)) (hR39 : ∀ (h : HS) (w : WF h) (a0 : Int32) (r : HS), R39 h a0 = some r → ex (d + 31) 39 (ent 39 [.ref (61), .int (a0)] h) = some (none, r)) (hW38 : ∀ (h : HS) (w : WF h) (a0 : Int32) (r : HS), R38 h a0 = some r → WF r) (hW39 : ∀ (h : HS) (w : WF h) (a0 : Int32) (r : HS), R39 h a0 = some r → WF r) (h : HS) (w : WF h) (r : HS) (hp : p39_j119 F R38 R39 a0 h = some r) : ex (d + 32) 39 (119, [some (.ref (61)), none, none, none], [], h) = some (none, r) := by
  unfold p39_j119 at hp
  refine e_aload_n f39_119 rfl ?_
  refine e_iconst (v := 0) f39_120 (by decide) ?_
  obtain ⟨r34, hr35, hp⟩ := bind_some hp
  try dsimp only at hp
  refine e_callV (st := []) (o := 61) (as := [.int (0)]) f39_121 (by decide) rfl rfl (Nat.le_of_ble_eq_true rfl) (WF.t w 61 (by decide)) (Nat.le_of_ble_eq_true rfl) (p32_ok (d + 31) (h) w (0) r34 hr35) ?_
  show ex _ 39 (124, [some (.ref (61)), none, none, none], [], r34) = _
  have hp := Option.some.inj hp
  subst hp
  exact e_return f39_124
set_option maxRecDepth 100000 in
set_option maxHeartbeats 4000000 in
theorem p39_j119_w (F : Nat) (R38 : HS → Int32 → Option (HS)) (R39 : HS → Int32 → Option (HS)) (a0 : Int32) (hW38 : ∀ (h : HS) (w : WF h) (a0 : Int32) (r : HS), R38 h a0 = some r → WF r) (hW39 : ∀ (h : HS) (w : WF h) (a0 : Int32) (r : HS), R39 h a0 = some r → WF r) (h : HS) (w : WF h) (r : HS) (hp : p39_j119 F R38 R39 a0 h = some r) : WF r := by
  unfold p39_j119 at hp
  obtain ⟨r34, hr35, hp⟩ := bind_some hp
  try dsimp only at hp
  have hp := Option.some.inj hp
  subst hp
  exact ((p32_w (h) w (0)  r34 hr35))
set_option maxRecDepth 100000 in
set_option maxHeartbeats 4000000 in
theorem p39_j149_ok (d : Nat) (F : Nat) (R38 : HS → Int32 → Option (HS)) (R39 : HS → Int32 → Option (HS)) (a0 : Int32) (hR38 : ∀ (h : HS) (w : WF h) (a0 : Int32) (r : HS), R38 h a0 = some r → ex (d + 31) 38 (ent 38 [.ref (61), .int (a0)] h) = some (none, r)) (hR39 : ∀ (h : HS) (w : WF h) (a0 : Int32) (r : HS), R39 h a0 = some r → ex (d + 31) 39 (ent 39 [.ref (61), .int (a0)] h) = some (none, r)) (hW38 : ∀ (h : HS) (w : WF h) (a0 : Int32) (r : HS), R38 h a0 = some r → WF r) (hW39 : ∀ (h : HS) (w : WF h) (a0 : Int32) (r : HS), R39 h a0 = some r → WF r) (h : HS) (w : WF h) (v3 : Int32) (r : HS) (hp : p39_j149 F R38 R39 a0 h v3 = some r) : ex (d + 32) 39 (149, [some (.ref (61)), some (.int (a0)), none, some (.int (v3))], [], h) = some (none, r) := by
  unfold p39_j149 at hp
  refine e_aload_n f39_149 rfl ?_
  refine e_dup f39_150 rfl ?_
  refine e_getI f39_151 (WF.t w 61 (by decide)) (by decide) ?_
  refine e_iconst (v := 1) f39_154 (by decide) ?_
  refine e_iadd f39_155 ?_
  refine e_putI f39_156 (WF.t w 61 (by decide)) rfl ?_
  refine e_aload_n f39_159 rfl ?_
  refine e_iload_n f39_160 rfl ?_
  obtain ⟨r36, hr37, hp⟩ := bind_some hp
  try dsimp only at hp
  refine e_callV (st := []) (o := 61) (as := [.int (a0)]) f39_161 (by decide) rfl rfl (Nat.le_of_ble_eq_true rfl) (WF.t w 61 (by decide)) (Nat.le_of_ble_eq_true rfl) (t40_ok d F (hsI (h) (61) 2 ((hI (h) (61) 2) + (1))) w (a0) r36 hr37) ?_
  show ex _ 39 (164, [some (.ref (61)), some (.int (a0)), none, some (.int (v3))], [], r36) = _
  refine e_aload_n f39_164 rfl ?_
  refine e_iload_n f39_165 rfl ?_
  obtain ⟨r38, hr39, hp⟩ := bind_some hp
  try dsimp only at hp
  refine e_callV (st := []) (o := 61) (as := [.int (v3)]) f39_166 (by decide) rfl rfl (Nat.le_of_ble_eq_true rfl) (WF.t (t40_w F (hsI (h) (61) 2 ((hI (h) (61) 2) + (1))) w (a0)  r36 hr37) 61 (by decide)) (Nat.le_of_ble_eq_true rfl) (p34_ok (d + 31) (r36) (t40_w F (hsI (h) (61) 2 ((hI (h) (61) 2) + (1))) w (a0)  r36 hr37) (v3) r38 hr39) ?_
  show ex _ 39 (169, [some (.ref (61)), some (.int (a0)), none, some (.int (v3))], [], r38) = _
  have hp := Option.some.inj hp
  subst hp
  exact e_return f39_169
set_option maxRecDepth 100000 in
set_option maxHeartbeats 4000000 in
theorem p39_j149_w (F : Nat) (R38 : HS → Int32 → Option (HS)) (R39 : HS → Int32 → Option (HS)) (a0 : Int32) (hW38 : ∀ (h : HS) (w : WF h) (a0 : Int32) (r : HS), R38 h a0 = some r → WF r) (hW39 : ∀ (h : HS) (w : WF h) (a0 : Int32) (r : HS), R39 h a0 = some r → WF r) (h : HS) (w : WF h) (v3 : Int32) (r : HS) (hp : p39_j149 F R38 R39 a0 h v3 = some r) : WF r := by
  unfold p39_j149 at hp
  obtain ⟨r36, hr37, hp⟩ := bind_some hp
  try dsimp only at hp
  obtain ⟨r38, hr39, hp⟩ := bind_some hp
  try dsimp only at hp
  have hp := Option.some.inj hp
  subst hp
  exact ((p34_w (r36) (t40_w F (hsI (h) (61) 2 ((hI (h) (61) 2) + (1))) w (a0)  r36 hr37) (v3)  r38 hr39))
set_option maxRecDepth 100000 in
set_option maxHeartbeats 4000000 in
theorem p39_j33_ok (d : Nat) (F : Nat) (R38 : HS → Int32 → Option (HS)) (R39 : HS → Int32 → Option (HS)) (a0 : Int32) (hR38 : ∀ (h : HS) (w : WF h) (a0 : Int32) (r : HS), R38 h a0 = some r → ex (d + 31) 38 (ent 38 [.ref (61), .int (a0)] h) = some (none, r)) (hR39 : ∀ (h : HS) (w : WF h) (a0 : Int32) (r : HS), R39 h a0 = some r → ex (d + 31) 39 (ent 39 [.ref (61), .int (a0)] h) = some (none, r)) (hW38 : ∀ (h : HS) (w : WF h) (a0 : Int32) (r : HS), R38 h a0 = some r → WF r) (hW39 : ∀ (h : HS) (w : WF h) (a0 : Int32) (r : HS), R39 h a0 = some r → WF r) (h : HS) (w : WF h) (r : HS) (hp : p39_j33 F R38 R39 a0 h = some r) : ex (d + 32) 39 (33, [some (.ref (61)), some (.int (a0)), none, none], [], h) = some (none, r) := by
  unfold p39_j33 at hp
  refine e_aload_n f39_33 rfl ?_
  refine e_sipush (v := 10030) f39_34 (by decide) ?_
  obtain ⟨r8, hr9, hp⟩ := bind_some hp
  try dsimp only at hp
  refine e_callV (st := []) (o := 61) (as := [.int (10030)]) f39_37 (by decide) rfl rfl (Nat.le_of_ble_eq_true rfl) (WF.t w 61 (by decide)) (Nat.le_of_ble_eq_true rfl) (p33_ok (d + 31) (h) w (10030) r8 hr9) ?_
  show ex _ 39 (40, [some (.ref (61)), some (.int (a0)), none, none], [.int (r8.1)], r8.2) = _
  by_cases hc10 : (r8.1) = (0 : Int32)
  · rw [if_pos hc10] at hp
    refine e_if_eq_t f39_40 hc10 ?_
    refine e_aload_n f39_60 rfl ?_
    refine e_sipush (v := 10043) f39_61 (by decide) ?_
    obtain ⟨r11, hr12, hp⟩ := bind_some hp
    try dsimp only at hp
    refine e_callV (st := []) (o := 61) (as := [.int (10043)]) f39_64 (by decide) rfl rfl (Nat.le_of_ble_eq_true rfl) (WF.t (p33_w (h) w (10030)  r8 hr9) 61 (by decide)) (Nat.le_of_ble_eq_true rfl) (p33_ok (d + 31) (r8.2) (p33_w (h) w (10030)  r8 hr9) (10043) r11 hr12) ?_
    show ex _ 39 (67, [some (.ref (61)), some (.int (a0)), none, none], [.int (r11.1)], r11.2) = _
    by_cases hc13 : (r11.1) = (0 : Int32)
    · rw [if_pos hc13] at hp
      refine e_if_eq_t f39_67 hc13 ?_
      refine e_aload_n f39_95 rfl ?_
      refine e_iload_n f39_96 rfl ?_
      obtain ⟨r14, hr15, hp⟩ := bind_some hp
      try dsimp only at hp
      refine e_callV (st := []) (o := 61) (as := [.int (a0)]) f39_97 (by decide) rfl rfl (Nat.le_of_ble_eq_true rfl) (WF.t (p33_w (r8.2) (p33_w (h) w (10030)  r8 hr9) (10043)  r11 hr12) 61 (by decide)) (Nat.le_of_ble_eq_true rfl) (t40_ok d F (r11.2) (p33_w (r8.2) (p33_w (h) w (10030)  r8 hr9) (10043)  r11 hr12) (a0) r14 hr15) ?_
      show ex _ 39 (100, [some (.ref (61)), some (.int (a0)), none, none], [], r14) = _
      refine e_aload_n f39_100 rfl ?_
      obtain ⟨r16, hr17, hp⟩ := bind_some hp
      try dsimp only at hp
      refine e_callV (st := []) (o := 61) (as := []) f39_101 (by decide) rfl rfl (Nat.le_of_ble_eq_true rfl) (WF.t (t40_w F (r11.2) (p33_w (r8.2) (p33_w (h) w (10030)  r8 hr9) (10043)  r11 hr12) (a0)  r14 hr15) 61 (by decide)) (Nat.le_of_ble_eq_true rfl) (p31_ok (d + 31) (r14) (t40_w F (r11.2) (p33_w (r8.2) (p33_w (h) w (10030)  r8 hr9) (10043)  r11 hr12) (a0)  r14 hr15) r16 hr17) ?_
      show ex _ 39 (104, [some (.ref (61)), some (.int (a0)), none, none], [.int (r16)], r14) = _
      refine e_istore_n (ls2 := [some (.ref (61)), some (.int (a0)), none, some (.int (r16))]) f39_104 (Nat.le_of_ble_eq_true rfl) rfl ?_
      refine e_iload_n f39_105 rfl ?_
      refine e_sipush (v := 10048) f39_106 (by decide) ?_
      by_cases hc18 : (r16) < ((10048) : Int32)
      · rw [if_pos hc18] at hp
        refine e_icmp_lt_t f39_109 hc18 ?_
        refine ex_weak (ls := [some (.ref (61)), none, none, none]) (le2_ok ⟨Or.inr rfl, Or.inl rfl, Or.inl rfl, Or.inl rfl, trivial⟩) ?_
        exact p39_j119_ok d F R38 R39 a0 hR38 hR39 hW38 hW39 (r14) ((t40_w F (r11.2) (p33_w (r8.2) (p33_w (h) w (10030)  r8 hr9) (10043)  r11 hr12) (a0)  r14 hr15))  _ hp
      · rw [if_neg hc18] at hp
        refine e_icmp_lt_f f39_109 hc18 ?_
        refine e_iload_n f39_112 rfl ?_
        refine e_sipush (v := 10052) f39_113 (by decide) ?_
        by_cases hc19 : (10052) < ((r16) : Int32)
        · rw [if_pos hc19] at hp
          refine e_icmp_le_f f39_116 hc19 ?_
          refine ex_weak (ls := [some (.ref (61)), none, none, none]) (le2_ok ⟨Or.inr rfl, Or.inl rfl, Or.inl rfl, Or.inl rfl, trivial⟩) ?_
          exact p39_j119_ok d F R38 R39 a0 hR38 hR39 hW38 hW39 (r14) ((t40_w F (r11.2) (p33_w (r8.2) (p33_w (h) w (10030)  r8 hr9) (10043)  r11 hr12) (a0)  r14 hr15))  _ hp
        · rw [if_neg hc19] at hp
          refine e_icmp_le_t f39_116 hc19 ?_
          refine e_aload_n f39_125 rfl ?_
          refine e_dup f39_126 rfl ?_
          refine e_getI f39_127 (WF.t (t40_w F (r11.2) (p33_w (r8.2) (p33_w (h) w (10030)  r8 hr9) (10043)  r11 hr12) (a0)  r14 hr15) 61 (by decide)) (by decide) ?_
          refine e_iconst (v := 1) f39_130 (by decide) ?_
          refine e_iadd f39_131 ?_
          refine e_putI f39_132 (WF.t (t40_w F (r11.2) (p33_w (r8.2) (p33_w (h) w (10030)  r8 hr9) (10043)  r11 hr12) (a0)  r14 hr15) 61 (by decide)) rfl ?_
          refine e_aload_n f39_135 rfl ?_
          refine e_getI f39_136 (WF.t (t40_w F (r11.2) (p33_w (r8.2) (p33_w (h) w (10030)  r8 hr9) (10043)  r11 hr12) (a0)  r14 hr15) 61 (by decide)) (by decide) ?_
          refine e_bipush (v := 80) f39_139 (by decide) ?_
          by_cases hc20 : (80) < ((hI (hsI (r14) (61) 4 ((hI (r14) (61) 4) + (1))) (61) 4) : Int32)
          · rw [if_pos hc20] at hp
            refine e_icmp_le_f f39_141 hc20 ?_
            refine e_aload_n f39_144 rfl ?_
            refine e_iconst (v := 3) f39_145 (by decide) ?_
            obtain ⟨r21, hr22, hp⟩ := bind_some hp
            try dsimp only at hp
            refine e_callV (st := []) (o := 61) (as := [.int (3)]) f39_146 (by decide) rfl rfl (Nat.le_of_ble_eq_true rfl) (WF.t (t40_w F (r11.2) (p33_w (r8.2) (p33_w (h) w (10030)  r8 hr9) (10043)  r11 hr12) (a0)  r14 hr15) 61 (by decide)) (Nat.le_of_ble_eq_true rfl) (p32_ok (d + 31) (hsI (r14) (61) 4 ((hI (r14) (61) 4) + (1))) (t40_w F (r11.2) (p33_w (r8.2) (p33_w (h) w (10030)  r8 hr9) (10043)  r11 hr12) (a0)  r14 hr15) (3) r21 hr22) ?_
            show ex _ 39 (149, [some (.ref (61)), some (.int (a0)), none, some (.int (r16))], [], r21) = _
            refine ex_weak (ls := [some (.ref (61)), some (.int (a0)), none, some (.int (r16))]) (le2_ok ⟨Or.inr rfl, Or.inr rfl, Or.inl rfl, Or.inr rfl, trivial⟩) ?_
            exact p39_j149_ok d F R38 R39 a0 hR38 hR39 hW38 hW39 (r21) ((p32_w (hsI (r14) (61) 4 ((hI (r14) (61) 4) + (1))) (t40_w F (r11.2) (p33_w (r8.2) (p33_w (h) w (10030)  r8 hr9) (10043)  r11 hr12) (a0)  r14 hr15) (3)  r21 hr22)) (r16) _ hp
          · rw [if_neg hc20] at hp
            refine e_icmp_le_t f39_141 hc20 ?_
            refine ex_weak (ls := [some (.ref (61)), some (.int (a0)), none, some (.int (r16))]) (le2_ok ⟨Or.inr rfl, Or.inr rfl, Or.inl rfl, Or.inr rfl, trivial⟩) ?_
            exact p39_j149_ok d F R38 R39 a0 hR38 hR39 hW38 hW39 (hsI (r14) (61) 4 ((hI (r14) (61) 4) + (1))) ((t40_w F (r11.2) (p33_w (r8.2) (p33_w (h) w (10030)  r8 hr9) (10043)  r11 hr12) (a0)  r14 hr15)) (r16) _ hp
    · rw [if_neg hc13] at hp
      refine e_if_eq_f f39_67 hc13 ?_
      refine e_aload_n f39_70 rfl ?_
      refine e_iload_n f39_71 rfl ?_
      refine e_iconst (v := 1) f39_72 (by decide) ?_
      refine e_iadd f39_73 ?_
      obtain ⟨r23, hr24, hp⟩ := bind_some hp
      try dsimp only at hp
      refine e_callV (st := []) (o := 61) (as := [.int ((a0) + (1))]) f39_74 (by decide) rfl rfl (Nat.le_of_ble_eq_true rfl) (WF.t (p33_w (r8.2) (p33_w (h) w (10030)  r8 hr9) (10043)  r11 hr12) 61 (by decide)) (Nat.le_of_ble_eq_true rfl) (hR38 (r11.2) (p33_w (r8.2) (p33_w (h) w (10030)  r8 hr9) (10043)  r11 hr12) ((a0) + (1))  r23 hr24) ?_
      show ex _ 39 (77, [some (.ref (61)), some (.int (a0)), none, none], [], r23) = _
      refine e_aload_n f39_77 rfl ?_
      refine e_sipush (v := 10044) f39_78 (by decide) ?_
      obtain ⟨r25, hr26, hp⟩ := bind_some hp
      try dsimp only at hp
      refine e_callV (st := []) (o := 61) (as := [.int (10044)]) f39_81 (by decide) rfl rfl (Nat.le_of_ble_eq_true rfl) (WF.t (hW38 (r11.2) (p33_w (r8.2) (p33_w (h) w (10030)  r8 hr9) (10043)  r11 hr12) ((a0) + (1))  r23 hr24) 61 (by decide)) (Nat.le_of_ble_eq_true rfl) (p33_ok (d + 31) (r23) (hW38 (r11.2) (p33_w (r8.2) (p33_w (h) w (10030)  r8 hr9) (10043)  r11 hr12) ((a0) + (1))  r23 hr24) (10044) r25 hr26) ?_
      show ex _ 39 (84, [some (.ref (61)), some (.int (a0)), none, none], [.int (r25.1)], r25.2) = _
      by_cases hc27 : (r25.1) = (0 : Int32)
      · rw [if_pos hc27] at hp
        refine e_if_ne_f f39_84 hc27 ?_
        refine e_aload_n f39_87 rfl ?_
        refine e_iconst (v := 0) f39_88 (by decide) ?_
        obtain ⟨r28, hr29, hp⟩ := bind_some hp
        try dsimp only at hp
        refine e_callV (st := []) (o := 61) (as := [.int (0)]) f39_89 (by decide) rfl rfl (Nat.le_of_ble_eq_true rfl) (WF.t (p33_w (r23) (hW38 (r11.2) (p33_w (r8.2) (p33_w (h) w (10030)  r8 hr9) (10043)  r11 hr12) ((a0) + (1))  r23 hr24) (10044)  r25 hr26) 61 (by decide)) (Nat.le_of_ble_eq_true rfl) (p32_ok (d + 31) (r25.2) (p33_w (r23) (hW38 (r11.2) (p33_w (r8.2) (p33_w (h) w (10030)  r8 hr9) (10043)  r11 hr12) ((a0) + (1))  r23 hr24) (10044)  r25 hr26) (0) r28 hr29) ?_
        show ex _ 39 (92, [some (.ref (61)), some (.int (a0)), none, none], [], r28) = _
        refine e_goto f39_92 ?_
        have hp := Option.some.inj hp
        subst hp
        exact e_return f39_169
      · rw [if_neg hc27] at hp
        refine e_if_ne_t f39_84 hc27 ?_
        have hp := Option.some.inj hp
        subst hp
        exact e_return f39_169
  · rw [if_neg hc10] at hp
    refine e_if_eq_f f39_40 hc10 ?_
    refine e_aload_n f39_43 rfl ?_
    refine e_iload_n f39_44 rfl ?_
    refine e_iconst (v := 1) f39_45 (by decide) ?_
    refine e_iadd f39_46 ?_
    obtain ⟨r30, hr31, hp⟩ := bind_some hp
    try dsimp only at hp
    refine e_callV (st := []) (o := 61) (as := [.int ((a0) + (1))]) f39_47 (by decide) rfl rfl (Nat.le_of_ble_eq_true rfl) (WF.t (p33_w (h) w (10030)  r8 hr9) 61 (by decide)) (Nat.le_of_ble_eq_true rfl) (hR39 (r8.2) (p33_w (h) w (10030)  r8 hr9) ((a0) + (1))  r30 hr31) ?_
    show ex _ 39 (50, [some (.ref (61)), some (.int (a0)), none, none], [], r30) = _
    refine e_aload_n f39_50 rfl ?_
    refine e_sipush (v := 10030) f39_51 (by decide) ?_
    obtain ⟨r32, hr33, hp⟩ := bind_some hp
    try dsimp only at hp
    refine e_callV (st := []) (o := 61) (as := [.int (10030)]) f39_54 (by decide) rfl rfl (Nat.le_of_ble_eq_true rfl) (WF.t (hW39 (r8.2) (p33_w (h) w (10030)  r8 hr9) ((a0) + (1))  r30 hr31) 61 (by decide)) (Nat.le_of_ble_eq_true rfl) (p34_ok (d + 31) (r30) (hW39 (r8.2) (p33_w (h) w (10030)  r8 hr9) ((a0) + (1))  r30 hr31) (10030) r32 hr33) ?_
    show ex _ 39 (57, [some (.ref (61)), some (.int (a0)), none, none], [], r32) = _
    refine e_goto f39_57 ?_
    have hp := Option.some.inj hp
    subst hp
    exact e_return f39_169
set_option maxRecDepth 100000 in
set_option maxHeartbeats 4000000 in
theorem p39_j33_w (F : Nat) (R38 : HS → Int32 → Option (HS)) (R39 : HS → Int32 → Option (HS)) (a0 : Int32) (hW38 : ∀ (h : HS) (w : WF h) (a0 : Int32) (r : HS), R38 h a0 = some r → WF r) (hW39 : ∀ (h : HS) (w : WF h) (a0 : Int32) (r : HS), R39 h a0 = some r → WF r) (h : HS) (w : WF h) (r : HS) (hp : p39_j33 F R38 R39 a0 h = some r) : WF r := by
  unfold p39_j33 at hp
  obtain ⟨r8, hr9, hp⟩ := bind_some hp
  try dsimp only at hp
  by_cases hc10 : (r8.1) = (0 : Int32)
  · rw [if_pos hc10] at hp
    obtain ⟨r11, hr12, hp⟩ := bind_some hp
    try dsimp only at hp
    by_cases hc13 : (r11.1) = (0 : Int32)
    · rw [if_pos hc13] at hp
      obtain ⟨r14, hr15, hp⟩ := bind_some hp
      try dsimp only at hp
      obtain ⟨r16, hr17, hp⟩ := bind_some hp
      try dsimp only at hp
      by_cases hc18 : (r16) < ((10048) : Int32)
      · rw [if_pos hc18] at hp
        exact p39_j119_w F R38 R39 a0 hW38 hW39 (r14) ((t40_w F (r11.2) (p33_w (r8.2) (p33_w (h) w (10030)  r8 hr9) (10043)  r11 hr12) (a0)  r14 hr15))  _ hp
      · rw [if_neg hc18] at hp
        by_cases hc19 : (10052) < ((r16) : Int32)
        · rw [if_pos hc19] at hp
          exact p39_j119_w F R38 R39 a0 hW38 hW39 (r14) ((t40_w F (r11.2) (p33_w (r8.2) (p33_w (h) w (10030)  r8 hr9) (10043)  r11 hr12) (a0)  r14 hr15))  _ hp
        · rw [if_neg hc19] at hp
          by_cases hc20 : (80) < ((hI (hsI (r14) (61) 4 ((hI (r14) (61) 4) + (1))) (61) 4) : Int32)
          · rw [if_pos hc20] at hp
            obtain ⟨r21, hr22, hp⟩ := bind_some hp
            try dsimp only at hp
            exact p39_j149_w F R38 R39 a0 hW38 hW39 (r21) ((p32_w (hsI (r14) (61) 4 ((hI (r14) (61) 4) + (1))) (t40_w F (r11.2) (p33_w (r8.2) (p33_w (h) w (10030)  r8 hr9) (10043)  r11 hr12) (a0)  r14 hr15) (3)  r21 hr22)) (r16) _ hp
          · rw [if_neg hc20] at hp
            exact p39_j149_w F R38 R39 a0 hW38 hW39 (hsI (r14) (61) 4 ((hI (r14) (61) 4) + (1))) ((t40_w F (r11.2) (p33_w (r8.2) (p33_w (h) w (10030)  r8 hr9) (10043)  r11 hr12) (a0)  r14 hr15)) (r16) _ hp
    · rw [if_neg hc13] at hp
      obtain ⟨r23, hr24, hp⟩ := bind_some hp
      try dsimp only at hp
      obtain ⟨r25, hr26, hp⟩ := bind_some hp
      try dsimp only at hp
      by_cases hc27 : (r25.1) = (0 : Int32)
      · rw [if_pos hc27] at hp
        obtain ⟨r28, hr29, hp⟩ := bind_some hp
        try dsimp only at hp
        have hp := Option.some.inj hp
        subst hp
        exact ((p32_w (r25.2) (p33_w (r23) (hW38 (r11.2) (p33_w (r8.2) (p33_w (h) w (10030)  r8 hr9) (10043)  r11 hr12) ((a0) + (1))  r23 hr24) (10044)  r25 hr26) (0)  r28 hr29))
      · rw [if_neg hc27] at hp
        have hp := Option.some.inj hp
        subst hp
        exact ((p33_w (r23) (hW38 (r11.2) (p33_w (r8.2) (p33_w (h) w (10030)  r8 hr9) (10043)  r11 hr12) ((a0) + (1))  r23 hr24) (10044)  r25 hr26))
  · rw [if_neg hc10] at hp
    obtain ⟨r30, hr31, hp⟩ := bind_some hp
    try dsimp only at hp
    obtain ⟨r32, hr33, hp⟩ := bind_some hp
    try dsimp only at hp
    have hp := Option.some.inj hp
    subst hp
    exact ((p34_w (r30) (hW39 (r8.2) (p33_w (h) w (10030)  r8 hr9) ((a0) + (1))  r30 hr31) (10030)  r32 hr33))
set_option maxRecDepth 100000 in
set_option maxHeartbeats 4000000 in
theorem p39_j19_ok (d : Nat) (F : Nat) (R38 : HS → Int32 → Option (HS)) (R39 : HS → Int32 → Option (HS)) (a0 : Int32) (hR38 : ∀ (h : HS) (w : WF h) (a0 : Int32) (r : HS), R38 h a0 = some r → ex (d + 31) 38 (ent 38 [.ref (61), .int (a0)] h) = some (none, r)) (hR39 : ∀ (h : HS) (w : WF h) (a0 : Int32) (r : HS), R39 h a0 = some r → ex (d + 31) 39 (ent 39 [.ref (61), .int (a0)] h) = some (none, r)) (hW38 : ∀ (h : HS) (w : WF h) (a0 : Int32) (r : HS), R38 h a0 = some r → WF r) (hW39 : ∀ (h : HS) (w : WF h) (a0 : Int32) (r : HS), R39 h a0 = some r → WF r) (h : HS) (w : WF h) (r : HS) (hp : p39_j19 F R38 R39 a0 h = some r) : ex (d + 32) 39 (19, [some (.ref (61)), some (.int (a0)), none, none], [], h) = some (none, r) := by
  unfold p39_j19 at hp
  refine e_iload_n f39_19 rfl ?_
  refine e_bipush (v := 10) f39_20 (by decide) ?_
  by_cases hc5 : (a0) < ((10) : Int32)
  · rw [if_pos hc5] at hp
    refine e_icmp_lt_t f39_22 hc5 ?_
    refine ex_weak (ls := [some (.ref (61)), some (.int (a0)), none, none]) (le2_ok ⟨Or.inr rfl, Or.inr rfl, Or.inl rfl, Or.inl rfl, trivial⟩) ?_
    exact p39_j33_ok d F R38 R39 a0 hR38 hR39 hW38 hW39 (h) (w)  _ hp
  · rw [if_neg hc5] at hp
    refine e_icmp_lt_f f39_22 hc5 ?_
    refine e_aload_n f39_25 rfl ?_
    refine e_iconst (v := 2) f39_26 (by decide) ?_
    obtain ⟨r6, hr7, hp⟩ := bind_some hp
    try dsimp only at hp
    refine e_callV (st := []) (o := 61) (as := [.int (2)]) f39_27 (by decide) rfl rfl (Nat.le_of_ble_eq_true rfl) (WF.t w 61 (by decide)) (Nat.le_of_ble_eq_true rfl) (p32_ok (d + 31) (h) w (2) r6 hr7) ?_
    show ex _ 39 (30, [some (.ref (61)), some (.int (a0)), none, none], [], r6) = _
    refine e_goto f39_30 ?_
    have hp := Option.some.inj hp
    subst hp
    exact e_return f39_169
set_option maxRecDepth 100000 in
set_option maxHeartbeats 4000000 in
theorem p39_j19_w (F : Nat) (R38 : HS → Int32 → Option (HS)) (R39 : HS → Int32 → Option (HS)) (a0 : Int32) (hW38 : ∀ (h : HS) (w : WF h) (a0 : Int32) (r : HS), R38 h a0 = some r → WF r) (hW39 : ∀ (h : HS) (w : WF h) (a0 : Int32) (r : HS), R39 h a0 = some r → WF r) (h : HS) (w : WF h) (r : HS) (hp : p39_j19 F R38 R39 a0 h = some r) : WF r := by
  unfold p39_j19 at hp
  by_cases hc5 : (a0) < ((10) : Int32)
  · rw [if_pos hc5] at hp
    exact p39_j33_w F R38 R39 a0 hW38 hW39 (h) (w)  _ hp
  · rw [if_neg hc5] at hp
    obtain ⟨r6, hr7, hp⟩ := bind_some hp
    try dsimp only at hp
    have hp := Option.some.inj hp
    subst hp
    exact ((p32_w (h) w (2)  r6 hr7))
set_option maxRecDepth 100000 in
set_option maxHeartbeats 4000000 in
theorem p39_ok (d : Nat) (F : Nat) (R38 : HS → Int32 → Option (HS)) (R39 : HS → Int32 → Option (HS)) (hR38 : ∀ (h : HS) (w : WF h) (a0 : Int32) (r : HS), R38 h a0 = some r → ex (d + 31) 38 (ent 38 [.ref (61), .int (a0)] h) = some (none, r)) (hR39 : ∀ (h : HS) (w : WF h) (a0 : Int32) (r : HS), R39 h a0 = some r → ex (d + 31) 39 (ent 39 [.ref (61), .int (a0)] h) = some (none, r)) (hW38 : ∀ (h : HS) (w : WF h) (a0 : Int32) (r : HS), R38 h a0 = some r → WF r) (hW39 : ∀ (h : HS) (w : WF h) (a0 : Int32) (r : HS), R39 h a0 = some r → WF r) (h : HS) (w : WF h) (a0 : Int32) (r : HS) (hp : p39 F R38 R39 h a0 = some r) : ex (d + 32) 39 (ent 39 [.ref (61), .int (a0)] h) = some (none, r) := by
  rw [show ent 39 [.ref (61), .int (a0)] h = (0, [some (.ref (61)), some (.int (a0)), none, none], [], h) from by  rfl]
  refine ex_weak (ls := [some (.ref (61)), some (.int (a0)), none, none]) (le2_ok ⟨Or.inr rfl, Or.inr rfl, Or.inr rfl, Or.inr rfl, trivial⟩) ?_
  unfold p39 at hp
  refine e_aload_n f39_0 rfl ?_
  obtain ⟨r1, hr2, hp⟩ := bind_some hp
  try dsimp only at hp
  refine e_callV (st := []) (o := 61) (as := []) f39_1 (by decide) rfl rfl (Nat.le_of_ble_eq_true rfl) (WF.t w 61 (by decide)) (Nat.le_of_ble_eq_true rfl) (p31_ok (d + 31) (h) w r1 hr2) ?_
  show ex _ 39 (4, [some (.ref (61)), some (.int (a0)), none, none], [.int (r1)], h) = _
  refine e_istore_n (ls2 := [some (.ref (61)), some (.int (a0)), some (.int (r1)), none]) f39_4 (Nat.le_of_ble_eq_true rfl) rfl ?_
  refine e_iload_n f39_5 rfl ?_
  refine e_sipush (v := 10030) f39_6 (by decide) ?_
  by_cases hc3 : (r1) = ((10030) : Int32)
  · rw [if_pos hc3] at hp
    refine e_icmp_eq_t f39_9 hc3 ?_
    refine ex_weak (ls := [some (.ref (61)), some (.int (a0)), none, none]) (le2_ok ⟨Or.inr rfl, Or.inr rfl, Or.inl rfl, Or.inl rfl, trivial⟩) ?_
    exact p39_j19_ok d F R38 R39 a0 hR38 hR39 hW38 hW39 (h) (w)  _ hp
  · rw [if_neg hc3] at hp
    refine e_icmp_eq_f f39_9 hc3 ?_
    refine e_iload_n f39_12 rfl ?_
    refine e_sipush (v := 10043) f39_13 (by decide) ?_
    by_cases hc4 : (r1) = ((10043) : Int32)
    · rw [if_pos hc4] at hp
      refine e_icmp_ne_f f39_16 hc4 ?_
      refine ex_weak (ls := [some (.ref (61)), some (.int (a0)), none, none]) (le2_ok ⟨Or.inr rfl, Or.inr rfl, Or.inl rfl, Or.inl rfl, trivial⟩) ?_
      exact p39_j19_ok d F R38 R39 a0 hR38 hR39 hW38 hW39 (h) (w)  _ hp
    · rw [if_neg hc4] at hp
      refine e_icmp_ne_t f39_16 hc4 ?_
      refine ex_weak (ls := [some (.ref (61)), some (.int (a0)), none, none]) (le2_ok ⟨Or.inr rfl, Or.inr rfl, Or.inl rfl, Or.inl rfl, trivial⟩) ?_
      exact p39_j33_ok d F R38 R39 a0 hR38 hR39 hW38 hW39 (h) (w)  _ hp
set_option maxRecDepth 100000 in
set_option maxHeartbeats 4000000 in
theorem p39_w (F : Nat) (R38 : HS → Int32 → Option (HS)) (R39 : HS → Int32 → Option (HS)) (hW38 : ∀ (h : HS) (w : WF h) (a0 : Int32) (r : HS), R38 h a0 = some r → WF r) (hW39 : ∀ (h : HS) (w : WF h) (a0 : Int32) (r : HS), R39 h a0 = some r → WF r) (h : HS) (w : WF h) (a0 : Int32) (r : HS) (hp : p39 F R38 R39 h a0 = some r) : WF r := by
  unfold p39 at hp
  obtain ⟨r1, hr2, hp⟩ := bind_some hp
  try dsimp only at hp
  by_cases hc3 : (r1) = ((10030) : Int32)
  · rw [if_pos hc3] at hp
    exact p39_j19_w F R38 R39 a0 hW38 hW39 (h) (w)  _ hp
  · rw [if_neg hc3] at hp
    by_cases hc4 : (r1) = ((10043) : Int32)
    · rw [if_pos hc4] at hp
      exact p39_j19_w F R38 R39 a0 hW38 hW39 (h) (w)  _ hp
    · rw [if_neg hc4] at hp
      exact p39_j33_w F R38 R39 a0 hW38 hW39 (h) (w)  _ hp
theorem f38_0 : fetch 38 0 = some (.iconst 0, 0, 0, 0) := rfl
theorem f38_1 : fetch 38 1 = some (.istore_n 2, 0, 0, 0) := rfl
theorem f38_2 : fetch 38 2 = some (.iload_n 2, 0, 0, 0) := rfl
theorem f38_3 : fetch 38 3 = some (.sipush 400, 0, 0, 0) := rfl
theorem f38_6 : fetch 38 6 = some (.if_icmp .ge 80, 86, 0, 0) := rfl
theorem f38_9 : fetch 38 9 = some (.aload_n 0, 0, 0, 0) := rfl
theorem f38_10 : fetch 38 10 = some (.getfield 38, 2, 3, 0) := rfl
theorem f38_13 : fetch 38 13 = some (.ifCond .ne 73, 86, 0, 0) := rfl
theorem f38_16 : fetch 38 16 = some (.aload_n 0, 0, 0, 0) := rfl
theorem f38_17 : fetch 38 17 = some (.iload_n 1, 0, 0, 0) := rfl
theorem f38_18 : fetch 38 18 = some (.invokevirtual 77, 39, 1, 0) := rfl
theorem f38_21 : fetch 38 21 = some (.iconst 0, 0, 0, 0) := rfl
theorem f38_22 : fetch 38 22 = some (.istore_n 3, 0, 0, 0) := rfl
theorem f38_23 : fetch 38 23 = some (.iload_n 3, 0, 0, 0) := rfl
theorem f38_24 : fetch 38 24 = some (.sipush 400, 0, 0, 0) := rfl
theorem f38_27 : fetch 38 27 = some (.if_icmp .ge 31, 58, 0, 0) := rfl
theorem f38_30 : fetch 38 30 = some (.aload_n 0, 0, 0, 0) := rfl
theorem f38_31 : fetch 38 31 = some (.sipush 10029, 0, 0, 0) := rfl
theorem f38_34 : fetch 38 34 = some (.invokevirtual 57, 33, 1, 0) := rfl
theorem f38_37 : fetch 38 37 = some (.ifCond .eq 21, 58, 0, 0) := rfl
theorem f38_40 : fetch 38 40 = some (.aload_n 0, 0, 0, 0) := rfl
theorem f38_41 : fetch 38 41 = some (.iload_n 1, 0, 0, 0) := rfl
theorem f38_42 : fetch 38 42 = some (.invokevirtual 77, 39, 1, 0) := rfl
theorem f38_45 : fetch 38 45 = some (.aload_n 0, 0, 0, 0) := rfl
theorem f38_46 : fetch 38 46 = some (.sipush 10029, 0, 0, 0) := rfl
theorem f38_49 : fetch 38 49 = some (.invokevirtual 80, 34, 1, 0) := rfl
theorem f38_52 : fetch 38 52 = some (.iinc 3 1, 0, 0, 0) := rfl
theorem f38_55 : fetch 38 55 = some (.goto (-32), 23, 0, 0) := rfl
theorem f38_58 : fetch 38 58 = some (.iload_n 2, 0, 0, 0) := rfl
theorem f38_59 : fetch 38 59 = some (.ifCond .le 10, 69, 0, 0) := rfl
theorem f38_62 : fetch 38 62 = some (.aload_n 0, 0, 0, 0) := rfl
theorem f38_63 : fetch 38 63 = some (.sipush 10028, 0, 0, 0) := rfl
theorem f38_66 : fetch 38 66 = some (.invokevirtual 80, 34, 1, 0) := rfl
theorem f38_69 : fetch 38 69 = some (.aload_n 0, 0, 0, 0) := rfl
theorem f38_70 : fetch 38 70 = some (.sipush 10028, 0, 0, 0) := rfl
theorem f38_73 : fetch 38 73 = some (.invokevirtual 57, 33, 1, 0) := rfl
theorem f38_76 : fetch 38 76 = some (.ifCond .ne 4, 80, 0, 0) := rfl
theorem f38_79 : fetch 38 79 = some (.return_, 0, 0, 0) := rfl
theorem f38_80 : fetch 38 80 = some (.iinc 2 1, 0, 0, 0) := rfl
theorem f38_83 : fetch 38 83 = some (.goto (-81), 2, 0, 0) := rfl
theorem f38_86 : fetch 38 86 = some (.return_, 0, 0, 0) := rfl
set_option maxRecDepth 100000 in
set_option maxHeartbeats 4000000 in
theorem p38_j69_ok (d : Nat) (F : Nat) (R39 : HS → Int32 → Option (HS)) (a0 : Int32) (K2 : HS → Int32 → Option (HS)) (hR39 : ∀ (h : HS) (w : WF h) (a0 : Int32) (r : HS), R39 h a0 = some r → ex (d + 0) 39 (ent 39 [.ref (61), .int (a0)] h) = some (none, r)) (hW39 : ∀ (h : HS) (w : WF h) (a0 : Int32) (r : HS), R39 h a0 = some r → WF r) (hK2 : ∀ (h : HS) (w : WF h) (u2 : Int32) (r : HS), K2 h u2 = some r → ex (d + 1) 38 (2, [some (.ref (61)), some (.int (a0)), some (.int (u2)), none], [], h) = some (none, r)) (h : HS) (w : WF h) (v2 : Int32) (r : HS) (hp : p38_j69 F R39 a0 K2 h v2 = some r) : ex (d + 1) 38 (69, [some (.ref (61)), some (.int (a0)), some (.int (v2)), none], [], h) = some (none, r) := by
  unfold p38_j69 at hp
  refine e_aload_n f38_69 rfl ?_
  refine e_sipush (v := 10028) f38_70 (by decide) ?_
  obtain ⟨r16, hr17, hp⟩ := bind_some hp
  try dsimp only at hp
  refine e_callV (st := []) (o := 61) (as := [.int (10028)]) f38_73 (by decide) rfl rfl (Nat.le_of_ble_eq_true rfl) (WF.t w 61 (by decide)) (Nat.le_of_ble_eq_true rfl) (p33_ok d (h) w (10028) r16 hr17) ?_
  show ex _ 38 (76, [some (.ref (61)), some (.int (a0)), some (.int (v2)), none], [.int (r16.1)], r16.2) = _
  by_cases hc18 : (r16.1) = (0 : Int32)
  · rw [if_pos hc18] at hp
    refine e_if_ne_f f38_76 hc18 ?_
    have hp := Option.some.inj hp
    subst hp
    exact e_return f38_79
  · rw [if_neg hc18] at hp
    refine e_if_ne_t f38_76 hc18 ?_
    refine e_iinc (ls2 := [some (.ref (61)), some (.int (a0)), some (.int ((v2) + 1)), none]) f38_80 (by decide) rfl rfl ?_
    refine e_goto f38_83 ?_
    refine ex_weak (ls := [some (.ref (61)), some (.int (a0)), some (.int ((v2) + 1)), none]) (le2_ok ⟨Or.inr rfl, Or.inr rfl, Or.inr rfl, Or.inl rfl, trivial⟩) ?_
    exact hK2 (r16.2) ((p33_w (h) w (10028)  r16 hr17)) ((v2) + 1) _ hp
set_option maxRecDepth 100000 in
set_option maxHeartbeats 4000000 in
theorem p38_j69_w (F : Nat) (R39 : HS → Int32 → Option (HS)) (a0 : Int32) (K2 : HS → Int32 → Option (HS)) (hW39 : ∀ (h : HS) (w : WF h) (a0 : Int32) (r : HS), R39 h a0 = some r → WF r) (hK2 : ∀ (h : HS) (w : WF h) (u2 : Int32) (r : HS), K2 h u2 = some r → WF r) (h : HS) (w : WF h) (v2 : Int32) (r : HS) (hp : p38_j69 F R39 a0 K2 h v2 = some r) : WF r := by
  unfold p38_j69 at hp
  obtain ⟨r16, hr17, hp⟩ := bind_some hp
  try dsimp only at hp
  by_cases hc18 : (r16.1) = (0 : Int32)
  · rw [if_pos hc18] at hp
    have hp := Option.some.inj hp
    subst hp
    exact ((p33_w (h) w (10028)  r16 hr17))
  · rw [if_neg hc18] at hp
    exact hK2 (r16.2) ((p33_w (h) w (10028)  r16 hr17)) ((v2) + 1) _ hp
set_option maxRecDepth 100000 in
set_option maxHeartbeats 4000000 in
theorem p38_j58_ok (d : Nat) (F : Nat) (R39 : HS → Int32 → Option (HS)) (a0 : Int32) (K2 : HS → Int32 → Option (HS)) (hR39 : ∀ (h : HS) (w : WF h) (a0 : Int32) (r : HS), R39 h a0 = some r → ex (d + 0) 39 (ent 39 [.ref (61), .int (a0)] h) = some (none, r)) (hW39 : ∀ (h : HS) (w : WF h) (a0 : Int32) (r : HS), R39 h a0 = some r → WF r) (hK2 : ∀ (h : HS) (w : WF h) (u2 : Int32) (r : HS), K2 h u2 = some r → ex (d + 1) 38 (2, [some (.ref (61)), some (.int (a0)), some (.int (u2)), none], [], h) = some (none, r)) (h : HS) (w : WF h) (v2 : Int32) (r : HS) (hp : p38_j58 F R39 a0 K2 h v2 = some r) : ex (d + 1) 38 (58, [some (.ref (61)), some (.int (a0)), some (.int (v2)), none], [], h) = some (none, r) := by
  unfold p38_j58 at hp
  refine e_iload_n f38_58 rfl ?_
  by_cases hc13 : (0 : Int32) < (v2)
  · rw [if_pos hc13] at hp
    refine e_if_le_f f38_59 hc13 ?_
    refine e_aload_n f38_62 rfl ?_
    refine e_sipush (v := 10028) f38_63 (by decide) ?_
    obtain ⟨r14, hr15, hp⟩ := bind_some hp
    try dsimp only at hp
    refine e_callV (st := []) (o := 61) (as := [.int (10028)]) f38_66 (by decide) rfl rfl (Nat.le_of_ble_eq_true rfl) (WF.t w 61 (by decide)) (Nat.le_of_ble_eq_true rfl) (p34_ok d (h) w (10028) r14 hr15) ?_
    show ex _ 38 (69, [some (.ref (61)), some (.int (a0)), some (.int (v2)), none], [], r14) = _
    refine ex_weak (ls := [some (.ref (61)), some (.int (a0)), some (.int (v2)), none]) (le2_ok ⟨Or.inr rfl, Or.inr rfl, Or.inr rfl, Or.inl rfl, trivial⟩) ?_
    exact p38_j69_ok d F R39 a0 (K2) hR39 hW39 (hK2) (r14) ((p34_w (h) w (10028)  r14 hr15)) (v2) _ hp
  · rw [if_neg hc13] at hp
    refine e_if_le_t f38_59 hc13 ?_
    refine ex_weak (ls := [some (.ref (61)), some (.int (a0)), some (.int (v2)), none]) (le2_ok ⟨Or.inr rfl, Or.inr rfl, Or.inr rfl, Or.inl rfl, trivial⟩) ?_
    exact p38_j69_ok d F R39 a0 (K2) hR39 hW39 (hK2) (h) (w) (v2) _ hp
set_option maxRecDepth 100000 in
set_option maxHeartbeats 4000000 in
theorem p38_j58_w (F : Nat) (R39 : HS → Int32 → Option (HS)) (a0 : Int32) (K2 : HS → Int32 → Option (HS)) (hW39 : ∀ (h : HS) (w : WF h) (a0 : Int32) (r : HS), R39 h a0 = some r → WF r) (hK2 : ∀ (h : HS) (w : WF h) (u2 : Int32) (r : HS), K2 h u2 = some r → WF r) (h : HS) (w : WF h) (v2 : Int32) (r : HS) (hp : p38_j58 F R39 a0 K2 h v2 = some r) : WF r := by
  unfold p38_j58 at hp
  by_cases hc13 : (0 : Int32) < (v2)
  · rw [if_pos hc13] at hp
    obtain ⟨r14, hr15, hp⟩ := bind_some hp
    try dsimp only at hp
    exact p38_j69_w F R39 a0 (K2) hW39 (hK2) (r14) ((p34_w (h) w (10028)  r14 hr15)) (v2) _ hp
  · rw [if_neg hc13] at hp
    exact p38_j69_w F R39 a0 (K2) hW39 (hK2) (h) (w) (v2) _ hp
set_option maxRecDepth 100000 in
set_option maxHeartbeats 4000000 in
theorem p38_L23_ok (d : Nat) (F : Nat) (R39 : HS → Int32 → Option (HS)) (a0 : Int32) (K2 : HS → Int32 → Option (HS)) (hR39 : ∀ (h : HS) (w : WF h) (a0 : Int32) (r : HS), R39 h a0 = some r → ex (d + 0) 39 (ent 39 [.ref (61), .int (a0)] h) = some (none, r)) (hW39 : ∀ (h : HS) (w : WF h) (a0 : Int32) (r : HS), R39 h a0 = some r → WF r) (hK2 : ∀ (h : HS) (w : WF h) (u2 : Int32) (r : HS), K2 h u2 = some r → ex (d + 1) 38 (2, [some (.ref (61)), some (.int (a0)), some (.int (u2)), none], [], h) = some (none, r)) : ∀ (n : Nat) (h : HS) (w : WF h) (v2 : Int32) (v3 : Int32) (r : HS), p38_L23 F R39 a0 K2 n h v2 v3 = some r → ex (d + 1) 38 (23, [some (.ref (61)), some (.int (a0)), some (.int (v2)), some (.int (v3))], [], h) = some (none, r) := by
  intro n
  induction n with
  | zero => intro h w v2 v3 r hp; cases hp
  | succ n ih =>
    intro h w v2 v3 r hp
    unfold p38_L23 at hp
    refine e_iload_n f38_23 rfl ?_
    refine e_sipush (v := 400) f38_24 (by decide) ?_
    by_cases hc5 : (v3) < ((400) : Int32)
    · rw [if_pos hc5] at hp
      refine e_icmp_ge_f f38_27 hc5 ?_
      refine e_aload_n f38_30 rfl ?_
      refine e_sipush (v := 10029) f38_31 (by decide) ?_
      obtain ⟨r6, hr7, hp⟩ := bind_some hp
      try dsimp only at hp
      refine e_callV (st := []) (o := 61) (as := [.int (10029)]) f38_34 (by decide) rfl rfl (Nat.le_of_ble_eq_true rfl) (WF.t w 61 (by decide)) (Nat.le_of_ble_eq_true rfl) (p33_ok d (h) w (10029) r6 hr7) ?_
      show ex _ 38 (37, [some (.ref (61)), some (.int (a0)), some (.int (v2)), some (.int (v3))], [.int (r6.1)], r6.2) = _
      by_cases hc8 : (r6.1) = (0 : Int32)
      · rw [if_pos hc8] at hp
        refine e_if_eq_t f38_37 hc8 ?_
        refine ex_weak (ls := [some (.ref (61)), some (.int (a0)), some (.int (v2)), none]) (le2_ok ⟨Or.inr rfl, Or.inr rfl, Or.inr rfl, Or.inl rfl, trivial⟩) ?_
        exact p38_j58_ok d F R39 a0 (K2) hR39 hW39 (hK2) (r6.2) ((p33_w (h) w (10029)  r6 hr7)) (v2) _ hp
      · rw [if_neg hc8] at hp
        refine e_if_eq_f f38_37 hc8 ?_
        refine e_aload_n f38_40 rfl ?_
        refine e_iload_n f38_41 rfl ?_
        obtain ⟨r9, hr10, hp⟩ := bind_some hp
        try dsimp only at hp
        refine e_callV (st := []) (o := 61) (as := [.int (a0)]) f38_42 (by decide) rfl rfl (Nat.le_of_ble_eq_true rfl) (WF.t (p33_w (h) w (10029)  r6 hr7) 61 (by decide)) (Nat.le_of_ble_eq_true rfl) (hR39 (r6.2) (p33_w (h) w (10029)  r6 hr7) (a0)  r9 hr10) ?_
        show ex _ 38 (45, [some (.ref (61)), some (.int (a0)), some (.int (v2)), some (.int (v3))], [], r9) = _
        refine e_aload_n f38_45 rfl ?_
        refine e_sipush (v := 10029) f38_46 (by decide) ?_
        obtain ⟨r11, hr12, hp⟩ := bind_some hp
        try dsimp only at hp
        refine e_callV (st := []) (o := 61) (as := [.int (10029)]) f38_49 (by decide) rfl rfl (Nat.le_of_ble_eq_true rfl) (WF.t (hW39 (r6.2) (p33_w (h) w (10029)  r6 hr7) (a0)  r9 hr10) 61 (by decide)) (Nat.le_of_ble_eq_true rfl) (p34_ok d (r9) (hW39 (r6.2) (p33_w (h) w (10029)  r6 hr7) (a0)  r9 hr10) (10029) r11 hr12) ?_
        show ex _ 38 (52, [some (.ref (61)), some (.int (a0)), some (.int (v2)), some (.int (v3))], [], r11) = _
        refine e_iinc (ls2 := [some (.ref (61)), some (.int (a0)), some (.int (v2)), some (.int ((v3) + 1))]) f38_52 (by decide) rfl rfl ?_
        refine e_goto f38_55 ?_
        refine ex_weak (ls := [some (.ref (61)), some (.int (a0)), some (.int (v2)), some (.int ((v3) + 1))]) (le2_ok ⟨Or.inr rfl, Or.inr rfl, Or.inr rfl, Or.inr rfl, trivial⟩) ?_
        exact ih (r11) ((p34_w (r9) (hW39 (r6.2) (p33_w (h) w (10029)  r6 hr7) (a0)  r9 hr10) (10029)  r11 hr12)) (v2) ((v3) + 1) _ hp
    · rw [if_neg hc5] at hp
      refine e_icmp_ge_t f38_27 hc5 ?_
      refine ex_weak (ls := [some (.ref (61)), some (.int (a0)), some (.int (v2)), none]) (le2_ok ⟨Or.inr rfl, Or.inr rfl, Or.inr rfl, Or.inl rfl, trivial⟩) ?_
      exact p38_j58_ok d F R39 a0 (K2) hR39 hW39 (hK2) (h) (w) (v2) _ hp
set_option maxRecDepth 100000 in
set_option maxHeartbeats 4000000 in
theorem p38_L23_w (F : Nat) (R39 : HS → Int32 → Option (HS)) (a0 : Int32) (K2 : HS → Int32 → Option (HS)) (hW39 : ∀ (h : HS) (w : WF h) (a0 : Int32) (r : HS), R39 h a0 = some r → WF r) (hK2 : ∀ (h : HS) (w : WF h) (u2 : Int32) (r : HS), K2 h u2 = some r → WF r) : ∀ (n : Nat) (h : HS) (w : WF h) (v2 : Int32) (v3 : Int32) (r : HS), p38_L23 F R39 a0 K2 n h v2 v3 = some r → WF r := by
  intro n
  induction n with
  | zero => intro h w v2 v3 r hp; cases hp
  | succ n ih =>
    intro h w v2 v3 r hp
    unfold p38_L23 at hp
    by_cases hc5 : (v3) < ((400) : Int32)
    · rw [if_pos hc5] at hp
      obtain ⟨r6, hr7, hp⟩ := bind_some hp
      try dsimp only at hp
      by_cases hc8 : (r6.1) = (0 : Int32)
      · rw [if_pos hc8] at hp
        exact p38_j58_w F R39 a0 (K2) hW39 (hK2) (r6.2) ((p33_w (h) w (10029)  r6 hr7)) (v2) _ hp
      · rw [if_neg hc8] at hp
        obtain ⟨r9, hr10, hp⟩ := bind_some hp
        try dsimp only at hp
        obtain ⟨r11, hr12, hp⟩ := bind_some hp
        try dsimp only at hp
        exact ih (r11) ((p34_w (r9) (hW39 (r6.2) (p33_w (h) w (10029)  r6 hr7) (a0)  r9 hr10) (10029)  r11 hr12)) (v2) ((v3) + 1) _ hp
    · rw [if_neg hc5] at hp
      exact p38_j58_w F R39 a0 (K2) hW39 (hK2) (h) (w) (v2) _ hp
set_option maxRecDepth 100000 in
set_option maxHeartbeats 4000000 in
theorem p38_L2_ok (d : Nat) (F : Nat) (R39 : HS → Int32 → Option (HS)) (a0 : Int32) (hR39 : ∀ (h : HS) (w : WF h) (a0 : Int32) (r : HS), R39 h a0 = some r → ex (d + 0) 39 (ent 39 [.ref (61), .int (a0)] h) = some (none, r)) (hW39 : ∀ (h : HS) (w : WF h) (a0 : Int32) (r : HS), R39 h a0 = some r → WF r) : ∀ (n : Nat) (h : HS) (w : WF h) (v2 : Int32) (r : HS), p38_L2 F R39 a0 n h v2 = some r → ex (d + 1) 38 (2, [some (.ref (61)), some (.int (a0)), some (.int (v2)), none], [], h) = some (none, r) := by
  intro n
  induction n with
  | zero => intro h w v2 r hp; cases hp
  | succ n ih =>
    intro h w v2 r hp
    unfold p38_L2 at hp
    refine e_iload_n f38_2 rfl ?_
    refine e_sipush (v := 400) f38_3 (by decide) ?_
    by_cases hc1 : (v2) < ((400) : Int32)
    · rw [if_pos hc1] at hp
      refine e_icmp_ge_f f38_6 hc1 ?_
      refine e_aload_n f38_9 rfl ?_
      refine e_getI f38_10 (WF.t w 61 (by decide)) (by decide) ?_
      by_cases hc2 : (hI (h) (61) 3) = (0 : Int32)
      · rw [if_pos hc2] at hp
        refine e_if_ne_f f38_13 hc2 ?_
        refine e_aload_n f38_16 rfl ?_
        refine e_iload_n f38_17 rfl ?_
        obtain ⟨r3, hr4, hp⟩ := bind_some hp
        try dsimp only at hp
        refine e_callV (st := []) (o := 61) (as := [.int (a0)]) f38_18 (by decide) rfl rfl (Nat.le_of_ble_eq_true rfl) (WF.t w 61 (by decide)) (Nat.le_of_ble_eq_true rfl) (hR39 (h) w (a0)  r3 hr4) ?_
        show ex _ 38 (21, [some (.ref (61)), some (.int (a0)), some (.int (v2)), none], [], r3) = _
        refine e_iconst (v := 0) f38_21 (by decide) ?_
        refine e_istore_n (ls2 := [some (.ref (61)), some (.int (a0)), some (.int (v2)), some (.int (0))]) f38_22 (Nat.le_of_ble_eq_true rfl) rfl ?_
        refine ex_weak (ls := [some (.ref (61)), some (.int (a0)), some (.int (v2)), some (.int (0))]) (le2_ok ⟨Or.inr rfl, Or.inr rfl, Or.inr rfl, Or.inr rfl, trivial⟩) ?_
        exact p38_L23_ok d F R39 a0 ((p38_L2 F R39 a0 n)) hR39 hW39 (ih) F (r3) ((hW39 (h) w (a0)  r3 hr4)) (v2) (0) _ hp
      · rw [if_neg hc2] at hp
        refine e_if_ne_t f38_13 hc2 ?_
        have hp := Option.some.inj hp
        subst hp
        exact e_return f38_86
    · rw [if_neg hc1] at hp
      refine e_icmp_ge_t f38_6 hc1 ?_
      have hp := Option.some.inj hp
      subst hp
      exact e_return f38_86
set_option maxRecDepth 100000 in
set_option maxHeartbeats 4000000 in
theorem p38_L2_w (F : Nat) (R39 : HS → Int32 → Option (HS)) (a0 : Int32) (hW39 : ∀ (h : HS) (w : WF h) (a0 : Int32) (r : HS), R39 h a0 = some r → WF r) : ∀ (n : Nat) (h : HS) (w : WF h) (v2 : Int32) (r : HS), p38_L2 F R39 a0 n h v2 = some r → WF r := by
  intro n
  induction n with
  | zero => intro h w v2 r hp; cases hp
  | succ n ih =>
    intro h w v2 r hp
    unfold p38_L2 at hp
    by_cases hc1 : (v2) < ((400) : Int32)
    · rw [if_pos hc1] at hp
      by_cases hc2 : (hI (h) (61) 3) = (0 : Int32)
      · rw [if_pos hc2] at hp
        obtain ⟨r3, hr4, hp⟩ := bind_some hp
        try dsimp only at hp
        exact p38_L23_w F R39 a0 ((p38_L2 F R39 a0 n)) hW39 (ih) F (r3) ((hW39 (h) w (a0)  r3 hr4)) (v2) (0) _ hp
      · rw [if_neg hc2] at hp
        have hp := Option.some.inj hp
        subst hp
        exact (w)
    · rw [if_neg hc1] at hp
      have hp := Option.some.inj hp
      subst hp
      exact (w)
set_option maxRecDepth 100000 in
set_option maxHeartbeats 4000000 in
theorem p38_ok (d : Nat) (F : Nat) (R39 : HS → Int32 → Option (HS)) (hR39 : ∀ (h : HS) (w : WF h) (a0 : Int32) (r : HS), R39 h a0 = some r → ex (d + 0) 39 (ent 39 [.ref (61), .int (a0)] h) = some (none, r)) (hW39 : ∀ (h : HS) (w : WF h) (a0 : Int32) (r : HS), R39 h a0 = some r → WF r) (h : HS) (w : WF h) (a0 : Int32) (r : HS) (hp : p38 F R39 h a0 = some r) : ex (d + 1) 38 (ent 38 [.ref (61), .int (a0)] h) = some (none, r) := by
  rw [show ent 38 [.ref (61), .int (a0)] h = (0, [some (.ref (61)), some (.int (a0)), none, none], [], h) from by  rfl]
  refine ex_weak (ls := [some (.ref (61)), some (.int (a0)), none, none]) (le2_ok ⟨Or.inr rfl, Or.inr rfl, Or.inr rfl, Or.inr rfl, trivial⟩) ?_
  unfold p38 at hp
  refine e_iconst (v := 0) f38_0 (by decide) ?_
  refine e_istore_n (ls2 := [some (.ref (61)), some (.int (a0)), some (.int (0)), none]) f38_1 (Nat.le_of_ble_eq_true rfl) rfl ?_
  refine ex_weak (ls := [some (.ref (61)), some (.int (a0)), some (.int (0)), none]) (le2_ok ⟨Or.inr rfl, Or.inr rfl, Or.inr rfl, Or.inl rfl, trivial⟩) ?_
  exact p38_L2_ok d F R39 a0 hR39 hW39 F (h) (w) (0) _ hp
set_option maxRecDepth 100000 in
set_option maxHeartbeats 4000000 in
theorem p38_w (F : Nat) (R39 : HS → Int32 → Option (HS)) (hW39 : ∀ (h : HS) (w : WF h) (a0 : Int32) (r : HS), R39 h a0 = some r → WF r) (h : HS) (w : WF h) (a0 : Int32) (r : HS) (hp : p38 F R39 h a0 = some r) : WF r := by
  unfold p38 at hp
  exact p38_L2_w F R39 a0 hW39 F (h) (w) (0) _ hp
theorem qr38_39_w (F : Nat) : ∀ (n : Nat), (∀ (h : HS) (w : WF h) (a0 : Int32) (r : HS), (qr38_39 F n).1 h a0 = some r → WF r) ∧ (∀ (h : HS) (w : WF h) (a0 : Int32) (r : HS), (qr38_39 F n).2 h a0 = some r → WF r)
  | 0 => ⟨fun h w a0 r hp => (by cases (show none = some r from hp)), fun h w a0 r hp => (by cases (show none = some r from hp))⟩
  | n + 1 => by
    have ih := qr38_39_w F n
    exact ⟨fun h w a0 r hp => p38_w F (qr38_39 F n).2 ih.2 h w a0 r hp, fun h w a0 r hp => p39_w F (qr38_39 F n).1 (qr38_39 F n).2 ih.1 ih.2 h w a0 r hp⟩
theorem qr38_39_ok (F : Nat) : ∀ (n d : Nat), n + 32 ≤ d → (∀ (h : HS) (w : WF h) (a0 : Int32) (r : HS), (qr38_39 F n).1 h a0 = some r → ex d 38 (ent 38 [.ref (61), .int (a0)] h) = some (none, r)) ∧ (∀ (h : HS) (w : WF h) (a0 : Int32) (r : HS), (qr38_39 F n).2 h a0 = some r → ex d 39 (ent 39 [.ref (61), .int (a0)] h) = some (none, r))
  | 0, d, _ => ⟨fun h w a0 r hp => (by cases (show none = some r from hp)), fun h w a0 r hp => (by cases (show none = some r from hp))⟩
  | n + 1, d, hd => by
    have ih := qr38_39_ok F n (d - 1) (by omega)
    have iw := qr38_39_w F n
    have e0 : d - 1 + 1 = d := by omega
    have f0 : d - 1 + (1 - 1) = d - 1 := by omega
    have e1 : d - 32 + 32 = d := by omega
    have f1 : d - 32 + (32 - 1) = d - 1 := by omega
    exact ⟨fun h w a0 r hp => by
      have z := p38_ok (d - 1) F (qr38_39 F n).2 (fun h w a0 r hp => by show ex (d - 1 + 0) _ _ = _; rw [show d - 1 + 0 = d - 1 by omega]; exact ih.2 h w a0 r hp) iw.2 h w a0 r hp
      rw [e0] at z
      exact z, fun h w a0 r hp => by
      have z := p39_ok (d - 32) F (qr38_39 F n).1 (qr38_39 F n).2 (fun h w a0 r hp => by show ex (d - 32 + 31) _ _ = _; rw [show d - 32 + 31 = d - 1 by omega]; exact ih.1 h w a0 r hp) (fun h w a0 r hp => by show ex (d - 32 + 31) _ _ = _; rw [show d - 32 + 31 = d - 1 by omega]; exact ih.2 h w a0 r hp) iw.1 iw.2 h w a0 r hp
      rw [e1] at z
      exact z⟩
theorem t38_ok (d F : Nat) (h : HS) (w : WF h) (a0 : Int32) (r : HS) (hp : t38 F h a0 = some r) : ex (d + 62) 38 (ent 38 [.ref (61), .int (a0)] h) = some (none, r) := (qr38_39_ok F 30 (d + 62) (by omega)).1 h w a0 r hp
theorem t38_w (F : Nat) (h : HS) (w : WF h) (a0 : Int32) (r : HS) (hp : t38 F h a0 = some r) : WF r := (qr38_39_w F 30).1 h w a0 r hp
theorem t39_ok (d F : Nat) (h : HS) (w : WF h) (a0 : Int32) (r : HS) (hp : t39 F h a0 = some r) : ex (d + 62) 39 (ent 39 [.ref (61), .int (a0)] h) = some (none, r) := (qr38_39_ok F 30 (d + 62) (by omega)).2 h w a0 r hp
theorem t39_w (F : Nat) (h : HS) (w : WF h) (a0 : Int32) (r : HS) (hp : t39 F h a0 = some r) : WF r := (qr38_39_w F 30).2 h w a0 r hp
theorem f35_0 : fetch 35 0 = some (.aload_n 0, 0, 0, 0) := rfl
theorem f35_1 : fetch 35 1 = some (.invokevirtual 53, 31, 0, 0) := rfl
theorem f35_4 : fetch 35 4 = some (.istore_n 1, 0, 0, 0) := rfl
theorem f35_5 : fetch 35 5 = some (.iload_n 1, 0, 0, 0) := rfl
theorem f35_6 : fetch 35 6 = some (.sipush 10021, 0, 0, 0) := rfl
theorem f35_9 : fetch 35 9 = some (.if_icmp .eq 25, 34, 0, 0) := rfl
theorem f35_12 : fetch 35 12 = some (.iload_n 1, 0, 0, 0) := rfl
theorem f35_13 : fetch 35 13 = some (.sipush 10022, 0, 0, 0) := rfl
theorem f35_16 : fetch 35 16 = some (.if_icmp .eq 18, 34, 0, 0) := rfl
theorem f35_19 : fetch 35 19 = some (.iload_n 1, 0, 0, 0) := rfl
theorem f35_20 : fetch 35 20 = some (.sipush 10023, 0, 0, 0) := rfl
theorem f35_23 : fetch 35 23 = some (.if_icmp .eq 11, 34, 0, 0) := rfl
theorem f35_26 : fetch 35 26 = some (.aload_n 0, 0, 0, 0) := rfl
theorem f35_27 : fetch 35 27 = some (.iconst 0, 0, 0, 0) := rfl
theorem f35_28 : fetch 35 28 = some (.invokevirtual 61, 32, 1, 0) := rfl
theorem f35_31 : fetch 35 31 = some (.goto 139, 170, 0, 0) := rfl
theorem f35_34 : fetch 35 34 = some (.aload_n 0, 0, 0, 0) := rfl
theorem f35_35 : fetch 35 35 = some (.getfield 44, 2, 5, 0) := rfl
theorem f35_38 : fetch 35 38 = some (.bipush 12, 0, 0, 0) := rfl
theorem f35_40 : fetch 35 40 = some (.if_icmp .lt 11, 51, 0, 0) := rfl
theorem f35_43 : fetch 35 43 = some (.aload_n 0, 0, 0, 0) := rfl
theorem f35_44 : fetch 35 44 = some (.iconst 4, 0, 0, 0) := rfl
theorem f35_45 : fetch 35 45 = some (.invokevirtual 61, 32, 1, 0) := rfl
theorem f35_48 : fetch 35 48 = some (.goto 122, 170, 0, 0) := rfl
theorem f35_51 : fetch 35 51 = some (.aload_n 0, 0, 0, 0) := rfl
theorem f35_52 : fetch 35 52 = some (.dup, 0, 0, 0) := rfl
theorem f35_53 : fetch 35 53 = some (.getfield 34, 2, 2, 0) := rfl
theorem f35_56 : fetch 35 56 = some (.iconst 1, 0, 0, 0) := rfl
theorem f35_57 : fetch 35 57 = some (.iadd, 0, 0, 0) := rfl
theorem f35_58 : fetch 35 58 = some (.putfield 34, 2, 2, 0) := rfl
theorem f35_61 : fetch 35 61 = some (.aload_n 0, 0, 0, 0) := rfl
theorem f35_62 : fetch 35 62 = some (.getfield 9, 2, 7, 2) := rfl
theorem f35_65 : fetch 35 65 = some (.aload_n 0, 0, 0, 0) := rfl
theorem f35_66 : fetch 35 66 = some (.getfield 44, 2, 5, 0) := rfl
theorem f35_69 : fetch 35 69 = some (.iload_n 1, 0, 0, 0) := rfl
theorem f35_70 : fetch 35 70 = some (.iastore, 0, 0, 0) := rfl
theorem f35_71 : fetch 35 71 = some (.aload_n 0, 0, 0, 0) := rfl
theorem f35_72 : fetch 35 72 = some (.getfield 15, 2, 8, 2) := rfl
theorem f35_75 : fetch 35 75 = some (.aload_n 0, 0, 0, 0) := rfl
theorem f35_76 : fetch 35 76 = some (.getfield 44, 2, 5, 0) := rfl
theorem f35_79 : fetch 35 79 = some (.iload_n 1, 0, 0, 0) := rfl
theorem f35_80 : fetch 35 80 = some (.sipush 10021, 0, 0, 0) := rfl
theorem f35_83 : fetch 35 83 = some (.if_icmp .ne 10, 93, 0, 0) := rfl
theorem f35_86 : fetch 35 86 = some (.aload_n 0, 0, 0, 0) := rfl
theorem f35_87 : fetch 35 87 = some (.invokevirtual 65, 36, 0, 0) := rfl
theorem f35_90 : fetch 35 90 = some (.goto 18, 108, 0, 0) := rfl
theorem f35_93 : fetch 35 93 = some (.iload_n 1, 0, 0, 0) := rfl
theorem f35_94 : fetch 35 94 = some (.sipush 10022, 0, 0, 0) := rfl
theorem f35_97 : fetch 35 97 = some (.if_icmp .ne 10, 107, 0, 0) := rfl
theorem f35_100 : fetch 35 100 = some (.aload_n 0, 0, 0, 0) := rfl
theorem f35_101 : fetch 35 101 = some (.invokevirtual 68, 37, 0, 0) := rfl
theorem f35_104 : fetch 35 104 = some (.goto 4, 108, 0, 0) := rfl
theorem f35_107 : fetch 35 107 = some (.iconst 0, 0, 0, 0) := rfl
theorem f35_108 : fetch 35 108 = some (.iastore, 0, 0, 0) := rfl
theorem f35_109 : fetch 35 109 = some (.iload_n 1, 0, 0, 0) := rfl
theorem f35_110 : fetch 35 110 = some (.sipush 10023, 0, 0, 0) := rfl
theorem f35_113 : fetch 35 113 = some (.if_icmp .ne 11, 124, 0, 0) := rfl
theorem f35_116 : fetch 35 116 = some (.aload_n 0, 0, 0, 0) := rfl
theorem f35_117 : fetch 35 117 = some (.iconst 0, 0, 0, 0) := rfl
theorem f35_118 : fetch 35 118 = some (.invokevirtual 71, 40, 1, 0) := rfl
theorem f35_121 : fetch 35 121 = some (.goto 26, 147, 0, 0) := rfl
theorem f35_124 : fetch 35 124 = some (.aload_n 0, 0, 0, 0) := rfl
theorem f35_125 : fetch 35 125 = some (.sipush 10027, 0, 0, 0) := rfl
theorem f35_128 : fetch 35 128 = some (.invokevirtual 57, 33, 1, 0) := rfl
theorem f35_131 : fetch 35 131 = some (.ifCond .eq 11, 142, 0, 0) := rfl
theorem f35_134 : fetch 35 134 = some (.aload_n 0, 0, 0, 0) := rfl
theorem f35_135 : fetch 35 135 = some (.iconst 0, 0, 0, 0) := rfl
theorem f35_136 : fetch 35 136 = some (.invokevirtual 74, 38, 1, 0) := rfl
theorem f35_139 : fetch 35 139 = some (.goto 8, 147, 0, 0) := rfl
theorem f35_142 : fetch 35 142 = some (.aload_n 0, 0, 0, 0) := rfl
theorem f35_143 : fetch 35 143 = some (.iconst 0, 0, 0, 0) := rfl
theorem f35_144 : fetch 35 144 = some (.invokevirtual 61, 32, 1, 0) := rfl
theorem f35_147 : fetch 35 147 = some (.aload_n 0, 0, 0, 0) := rfl
theorem f35_148 : fetch 35 148 = some (.getfield 18, 2, 9, 2) := rfl
theorem f35_151 : fetch 35 151 = some (.aload_n 0, 0, 0, 0) := rfl
theorem f35_152 : fetch 35 152 = some (.getfield 44, 2, 5, 0) := rfl
theorem f35_155 : fetch 35 155 = some (.aload_n 0, 0, 0, 0) := rfl
theorem f35_156 : fetch 35 156 = some (.getfield 47, 2, 6, 0) := rfl
theorem f35_159 : fetch 35 159 = some (.iastore, 0, 0, 0) := rfl
theorem f35_160 : fetch 35 160 = some (.aload_n 0, 0, 0, 0) := rfl
theorem f35_161 : fetch 35 161 = some (.dup, 0, 0, 0) := rfl
theorem f35_162 : fetch 35 162 = some (.getfield 44, 2, 5, 0) := rfl
theorem f35_165 : fetch 35 165 = some (.iconst 1, 0, 0, 0) := rfl
theorem f35_166 : fetch 35 166 = some (.iadd, 0, 0, 0) := rfl
theorem f35_167 : fetch 35 167 = some (.putfield 44, 2, 5, 0) := rfl
theorem f35_170 : fetch 35 170 = some (.return_, 0, 0, 0) := rfl
set_option maxRecDepth 100000 in
set_option maxHeartbeats 4000000 in
theorem p35_j147_ok (d : Nat) (F : Nat) (h : HS) (w : WF h) (r : HS) (hp : p35_j147 F h = some r) : ex (d + 63) 35 (147, [some (.ref (61)), none], [], h) = some (none, r) := by
  unfold p35_j147 at hp
  refine e_aload_n f35_147 rfl ?_
  refine e_getR f35_148 (WF.t w 61 (by decide)) rfl (WF.r (q := 64) w 61 9 (by decide)) ?_
  refine e_aload_n f35_151 rfl ?_
  refine e_getI f35_152 (WF.t w 61 (by decide)) (by decide) ?_
  refine e_aload_n f35_155 rfl ?_
  refine e_getI f35_156 (WF.t w 61 (by decide)) (by decide) ?_
  by_cases hg32 : (hI (h) (61) 5) < (0 : Int32) ∨ 12 ≤ (hI (h) (61) 5).toNatClampNeg
  · rw [if_pos hg32] at hp; cases hp
  rw [if_neg hg32] at hp
  refine e_iastore f35_159 (WF.t w 64 (by decide)) (WF.n w 64 (by decide)) hg32 ?_
  refine e_aload_n f35_160 rfl ?_
  refine e_dup f35_161 rfl ?_
  refine e_getI f35_162 (WF.t w 61 (by decide)) (by decide) ?_
  refine e_iconst (v := 1) f35_165 (by decide) ?_
  refine e_iadd f35_166 ?_
  refine e_putI f35_167 (WF.t w 61 (by decide)) rfl ?_
  obtain ⟨h33, e34, hp⟩ := bind_some hp
  try dsimp only at hp
  have e34 := Option.some.inj e34
  have w35 : WF h33 := e34 ▸ w
  rw [e34]
  have hp := Option.some.inj hp
  subst hp
  exact e_return f35_170
set_option maxRecDepth 100000 in
set_option maxHeartbeats 4000000 in
theorem p35_j147_w (F : Nat) (h : HS) (w : WF h) (r : HS) (hp : p35_j147 F h = some r) : WF r := by
  unfold p35_j147 at hp
  by_cases hg32 : (hI (h) (61) 5) < (0 : Int32) ∨ 12 ≤ (hI (h) (61) 5).toNatClampNeg
  · rw [if_pos hg32] at hp; cases hp
  rw [if_neg hg32] at hp
  obtain ⟨h33, e34, hp⟩ := bind_some hp
  try dsimp only at hp
  have e34 := Option.some.inj e34
  have w35 : WF h33 := e34 ▸ w
  have hp := Option.some.inj hp
  subst hp
  exact (w35)
set_option maxRecDepth 100000 in
set_option maxHeartbeats 4000000 in
theorem p35_j108_ok (d : Nat) (F : Nat) (h : HS) (w : WF h) (v1 : Int32) (s0 : Int32) (s1 : Int32) (r : HS) (hp : p35_j108 F h v1 s0 s1 = some r) : ex (d + 63) 35 (108, [some (.ref (61)), some (.int (v1))], [.int (s0), .int (s1), .ref (63)], h) = some (none, r) := by
  unfold p35_j108 at hp
  by_cases hg21 : (s1) < (0 : Int32) ∨ 12 ≤ (s1).toNatClampNeg
  · rw [if_pos hg21] at hp; cases hp
  rw [if_neg hg21] at hp
  refine e_iastore f35_108 (WF.t w 63 (by decide)) (WF.n w 63 (by decide)) hg21 ?_
  refine e_iload_n f35_109 rfl ?_
  refine e_sipush (v := 10023) f35_110 (by decide) ?_
  by_cases hc22 : (v1) = ((10023) : Int32)
  · rw [if_pos hc22] at hp
    refine e_icmp_ne_f f35_113 hc22 ?_
    refine e_aload_n f35_116 rfl ?_
    refine e_iconst (v := 0) f35_117 (by decide) ?_
    obtain ⟨r23, hr24, hp⟩ := bind_some hp
    try dsimp only at hp
    refine e_callV (st := []) (o := 61) (as := [.int (0)]) f35_118 (by decide) rfl rfl (Nat.le_of_ble_eq_true rfl) (WF.t w 61 (by decide)) (Nat.le_of_ble_eq_true rfl) (t40_ok (d + 31) F (hsI (h) (63) (s1).toNatClampNeg (s0)) w (0) r23 hr24) ?_
    show ex _ 35 (121, [some (.ref (61)), some (.int (v1))], [], r23) = _
    refine e_goto f35_121 ?_
    refine ex_weak (ls := [some (.ref (61)), none]) (le2_ok ⟨Or.inr rfl, Or.inl rfl, trivial⟩) ?_
    exact p35_j147_ok d F (r23) ((t40_w F (hsI (h) (63) (s1).toNatClampNeg (s0)) w (0)  r23 hr24))  _ hp
  · rw [if_neg hc22] at hp
    refine e_icmp_ne_t f35_113 hc22 ?_
    refine e_aload_n f35_124 rfl ?_
    refine e_sipush (v := 10027) f35_125 (by decide) ?_
    obtain ⟨r25, hr26, hp⟩ := bind_some hp
    try dsimp only at hp
    refine e_callV (st := []) (o := 61) (as := [.int (10027)]) f35_128 (by decide) rfl rfl (Nat.le_of_ble_eq_true rfl) (WF.t w 61 (by decide)) (Nat.le_of_ble_eq_true rfl) (p33_ok (d + 62) (hsI (h) (63) (s1).toNatClampNeg (s0)) w (10027) r25 hr26) ?_
    show ex _ 35 (131, [some (.ref (61)), some (.int (v1))], [.int (r25.1)], r25.2) = _
    by_cases hc27 : (r25.1) = (0 : Int32)
    · rw [if_pos hc27] at hp
      refine e_if_eq_t f35_131 hc27 ?_
      refine e_aload_n f35_142 rfl ?_
      refine e_iconst (v := 0) f35_143 (by decide) ?_
      obtain ⟨r28, hr29, hp⟩ := bind_some hp
      try dsimp only at hp
      refine e_callV (st := []) (o := 61) (as := [.int (0)]) f35_144 (by decide) rfl rfl (Nat.le_of_ble_eq_true rfl) (WF.t (p33_w (hsI (h) (63) (s1).toNatClampNeg (s0)) w (10027)  r25 hr26) 61 (by decide)) (Nat.le_of_ble_eq_true rfl) (p32_ok (d + 62) (r25.2) (p33_w (hsI (h) (63) (s1).toNatClampNeg (s0)) w (10027)  r25 hr26) (0) r28 hr29) ?_
      show ex _ 35 (147, [some (.ref (61)), some (.int (v1))], [], r28) = _
      refine ex_weak (ls := [some (.ref (61)), none]) (le2_ok ⟨Or.inr rfl, Or.inl rfl, trivial⟩) ?_
      exact p35_j147_ok d F (r28) ((p32_w (r25.2) (p33_w (hsI (h) (63) (s1).toNatClampNeg (s0)) w (10027)  r25 hr26) (0)  r28 hr29))  _ hp
    · rw [if_neg hc27] at hp
      refine e_if_eq_f f35_131 hc27 ?_
      refine e_aload_n f35_134 rfl ?_
      refine e_iconst (v := 0) f35_135 (by decide) ?_
      obtain ⟨r30, hr31, hp⟩ := bind_some hp
      try dsimp only at hp
      refine e_callV (st := []) (o := 61) (as := [.int (0)]) f35_136 (by decide) rfl rfl (Nat.le_of_ble_eq_true rfl) (WF.t (p33_w (hsI (h) (63) (s1).toNatClampNeg (s0)) w (10027)  r25 hr26) 61 (by decide)) (Nat.le_of_ble_eq_true rfl) (t38_ok d F (r25.2) (p33_w (hsI (h) (63) (s1).toNatClampNeg (s0)) w (10027)  r25 hr26) (0) r30 hr31) ?_
      show ex _ 35 (139, [some (.ref (61)), some (.int (v1))], [], r30) = _
      refine e_goto f35_139 ?_
      refine ex_weak (ls := [some (.ref (61)), none]) (le2_ok ⟨Or.inr rfl, Or.inl rfl, trivial⟩) ?_
      exact p35_j147_ok d F (r30) ((t38_w F (r25.2) (p33_w (hsI (h) (63) (s1).toNatClampNeg (s0)) w (10027)  r25 hr26) (0)  r30 hr31))  _ hp
set_option maxRecDepth 100000 in
set_option maxHeartbeats 4000000 in
theorem p35_j108_w (F : Nat) (h : HS) (w : WF h) (v1 : Int32) (s0 : Int32) (s1 : Int32) (r : HS) (hp : p35_j108 F h v1 s0 s1 = some r) : WF r := by
  unfold p35_j108 at hp
  by_cases hg21 : (s1) < (0 : Int32) ∨ 12 ≤ (s1).toNatClampNeg
  · rw [if_pos hg21] at hp; cases hp
  rw [if_neg hg21] at hp
  by_cases hc22 : (v1) = ((10023) : Int32)
  · rw [if_pos hc22] at hp
    obtain ⟨r23, hr24, hp⟩ := bind_some hp
    try dsimp only at hp
    exact p35_j147_w F (r23) ((t40_w F (hsI (h) (63) (s1).toNatClampNeg (s0)) w (0)  r23 hr24))  _ hp
  · rw [if_neg hc22] at hp
    obtain ⟨r25, hr26, hp⟩ := bind_some hp
    try dsimp only at hp
    by_cases hc27 : (r25.1) = (0 : Int32)
    · rw [if_pos hc27] at hp
      obtain ⟨r28, hr29, hp⟩ := bind_some hp
      try dsimp only at hp
      exact p35_j147_w F (r28) ((p32_w (r25.2) (p33_w (hsI (h) (63) (s1).toNatClampNeg (s0)) w (10027)  r25 hr26) (0)  r28 hr29))  _ hp
    · rw [if_neg hc27] at hp
      obtain ⟨r30, hr31, hp⟩ := bind_some hp
      try dsimp only at hp
      exact p35_j147_w F (r30) ((t38_w F (r25.2) (p33_w (hsI (h) (63) (s1).toNatClampNeg (s0)) w (10027)  r25 hr26) (0)  r30 hr31))  _ hp
set_option maxRecDepth 100000 in
set_option maxHeartbeats 4000000 in
theorem p35_j34_ok (d : Nat) (F : Nat) (h : HS) (w : WF h) (v1 : Int32) (r : HS) (hp : p35_j34 F h v1 = some r) : ex (d + 63) 35 (34, [some (.ref (61)), some (.int (v1))], [], h) = some (none, r) := by
  unfold p35_j34 at hp
  refine e_aload_n f35_34 rfl ?_
  refine e_getI f35_35 (WF.t w 61 (by decide)) (by decide) ?_
  refine e_bipush (v := 12) f35_38 (by decide) ?_
  by_cases hc8 : (hI (h) (61) 5) < ((12) : Int32)
  · rw [if_pos hc8] at hp
    refine e_icmp_lt_t f35_40 hc8 ?_
    refine e_aload_n f35_51 rfl ?_
    refine e_dup f35_52 rfl ?_
    refine e_getI f35_53 (WF.t w 61 (by decide)) (by decide) ?_
    refine e_iconst (v := 1) f35_56 (by decide) ?_
    refine e_iadd f35_57 ?_
    refine e_putI f35_58 (WF.t w 61 (by decide)) rfl ?_
    refine e_aload_n f35_61 rfl ?_
    refine e_getR f35_62 (WF.t w 61 (by decide)) rfl (WF.r (q := 62) w 61 7 (by decide)) ?_
    refine e_aload_n f35_65 rfl ?_
    refine e_getI f35_66 (WF.t w 61 (by decide)) (by decide) ?_
    refine e_iload_n f35_69 rfl ?_
    by_cases hg9 : (hI (hsI (h) (61) 2 ((hI (h) (61) 2) + (1))) (61) 5) < (0 : Int32) ∨ 12 ≤ (hI (hsI (h) (61) 2 ((hI (h) (61) 2) + (1))) (61) 5).toNatClampNeg
    · rw [if_pos hg9] at hp; cases hp
    rw [if_neg hg9] at hp
    refine e_iastore f35_70 (WF.t w 62 (by decide)) (WF.n w 62 (by decide)) hg9 ?_
    obtain ⟨h10, e11, hp⟩ := bind_some hp
    try dsimp only at hp
    have e11 := Option.some.inj e11
    have w12 : WF h10 := e11 ▸ w
    rw [e11]
    refine e_aload_n f35_71 rfl ?_
    refine e_getR f35_72 (WF.t w12 61 (by decide)) rfl (WF.r (q := 63) w12 61 8 (by decide)) ?_
    refine e_aload_n f35_75 rfl ?_
    refine e_getI f35_76 (WF.t w12 61 (by decide)) (by decide) ?_
    refine e_iload_n f35_79 rfl ?_
    refine e_sipush (v := 10021) f35_80 (by decide) ?_
    by_cases hc13 : (v1) = ((10021) : Int32)
    · rw [if_pos hc13] at hp
      refine e_icmp_ne_f f35_83 hc13 ?_
      refine e_aload_n f35_86 rfl ?_
      obtain ⟨r14, hr15, hp⟩ := bind_some hp
      try dsimp only at hp
      refine e_callV (st := [.int (hI (h10) (61) 5), .ref (63)]) (o := 61) (as := []) f35_87 (by decide) rfl rfl (Nat.le_of_ble_eq_true rfl) (WF.t w12 61 (by decide)) (Nat.le_of_ble_eq_true rfl) (p36_ok (d + 61) F (h10) w12 r14 hr15) ?_
      show ex _ 35 (90, [some (.ref (61)), some (.int (v1))], [.int (r14.1), .int (hI (h10) (61) 5), .ref (63)], r14.2) = _
      refine e_goto f35_90 ?_
      refine ex_weak (ls := [some (.ref (61)), some (.int (v1))]) (le2_ok ⟨Or.inr rfl, Or.inr rfl, trivial⟩) ?_
      exact p35_j108_ok d F (r14.2) ((p36_w F (h10) w12  r14 hr15)) (v1) (r14.1) (hI (h10) (61) 5) _ hp
    · rw [if_neg hc13] at hp
      refine e_icmp_ne_t f35_83 hc13 ?_
      refine e_iload_n f35_93 rfl ?_
      refine e_sipush (v := 10022) f35_94 (by decide) ?_
      by_cases hc16 : (v1) = ((10022) : Int32)
      · rw [if_pos hc16] at hp
        refine e_icmp_ne_f f35_97 hc16 ?_
        refine e_aload_n f35_100 rfl ?_
        obtain ⟨r17, hr18, hp⟩ := bind_some hp
        try dsimp only at hp
        refine e_callV (st := [.int (hI (h10) (61) 5), .ref (63)]) (o := 61) (as := []) f35_101 (by decide) rfl rfl (Nat.le_of_ble_eq_true rfl) (WF.t w12 61 (by decide)) (Nat.le_of_ble_eq_true rfl) (p37_ok (d + 61) (h10) w12 r17 hr18) ?_
        show ex _ 35 (104, [some (.ref (61)), some (.int (v1))], [.int (r17.1), .int (hI (h10) (61) 5), .ref (63)], r17.2) = _
        refine e_goto f35_104 ?_
        refine ex_weak (ls := [some (.ref (61)), some (.int (v1))]) (le2_ok ⟨Or.inr rfl, Or.inr rfl, trivial⟩) ?_
        exact p35_j108_ok d F (r17.2) ((p37_w (h10) w12  r17 hr18)) (v1) (r17.1) (hI (h10) (61) 5) _ hp
      · rw [if_neg hc16] at hp
        refine e_icmp_ne_t f35_97 hc16 ?_
        refine e_iconst (v := 0) f35_107 (by decide) ?_
        refine ex_weak (ls := [some (.ref (61)), some (.int (v1))]) (le2_ok ⟨Or.inr rfl, Or.inr rfl, trivial⟩) ?_
        exact p35_j108_ok d F (h10) (w12) (v1) (0) (hI (h10) (61) 5) _ hp
  · rw [if_neg hc8] at hp
    refine e_icmp_lt_f f35_40 hc8 ?_
    refine e_aload_n f35_43 rfl ?_
    refine e_iconst (v := 4) f35_44 (by decide) ?_
    obtain ⟨r19, hr20, hp⟩ := bind_some hp
    try dsimp only at hp
    refine e_callV (st := []) (o := 61) (as := [.int (4)]) f35_45 (by decide) rfl rfl (Nat.le_of_ble_eq_true rfl) (WF.t w 61 (by decide)) (Nat.le_of_ble_eq_true rfl) (p32_ok (d + 62) (h) w (4) r19 hr20) ?_
    show ex _ 35 (48, [some (.ref (61)), some (.int (v1))], [], r19) = _
    refine e_goto f35_48 ?_
    have hp := Option.some.inj hp
    subst hp
    exact e_return f35_170
set_option maxRecDepth 100000 in
set_option maxHeartbeats 4000000 in
theorem p35_j34_w (F : Nat) (h : HS) (w : WF h) (v1 : Int32) (r : HS) (hp : p35_j34 F h v1 = some r) : WF r := by
  unfold p35_j34 at hp
  by_cases hc8 : (hI (h) (61) 5) < ((12) : Int32)
  · rw [if_pos hc8] at hp
    by_cases hg9 : (hI (hsI (h) (61) 2 ((hI (h) (61) 2) + (1))) (61) 5) < (0 : Int32) ∨ 12 ≤ (hI (hsI (h) (61) 2 ((hI (h) (61) 2) + (1))) (61) 5).toNatClampNeg
    · rw [if_pos hg9] at hp; cases hp
    rw [if_neg hg9] at hp
    obtain ⟨h10, e11, hp⟩ := bind_some hp
    try dsimp only at hp
    have e11 := Option.some.inj e11
    have w12 : WF h10 := e11 ▸ w
    by_cases hc13 : (v1) = ((10021) : Int32)
    · rw [if_pos hc13] at hp
      obtain ⟨r14, hr15, hp⟩ := bind_some hp
      try dsimp only at hp
      exact p35_j108_w F (r14.2) ((p36_w F (h10) w12  r14 hr15)) (v1) (r14.1) (hI (h10) (61) 5) _ hp
    · rw [if_neg hc13] at hp
      by_cases hc16 : (v1) = ((10022) : Int32)
      · rw [if_pos hc16] at hp
        obtain ⟨r17, hr18, hp⟩ := bind_some hp
        try dsimp only at hp
        exact p35_j108_w F (r17.2) ((p37_w (h10) w12  r17 hr18)) (v1) (r17.1) (hI (h10) (61) 5) _ hp
      · rw [if_neg hc16] at hp
        exact p35_j108_w F (h10) (w12) (v1) (0) (hI (h10) (61) 5) _ hp
  · rw [if_neg hc8] at hp
    obtain ⟨r19, hr20, hp⟩ := bind_some hp
    try dsimp only at hp
    have hp := Option.some.inj hp
    subst hp
    exact ((p32_w (h) w (4)  r19 hr20))
set_option maxRecDepth 100000 in
set_option maxHeartbeats 4000000 in
theorem p35_ok (d : Nat) (F : Nat) (h : HS) (w : WF h) (r : HS) (hp : p35 F h = some r) : ex (d + 63) 35 (ent 35 [.ref (61)] h) = some (none, r) := by
  rw [show ent 35 [.ref (61)] h = (0, [some (.ref (61)), none], [], h) from by  rfl]
  refine ex_weak (ls := [some (.ref (61)), none]) (le2_ok ⟨Or.inr rfl, Or.inr rfl, trivial⟩) ?_
  unfold p35 at hp
  refine e_aload_n f35_0 rfl ?_
  obtain ⟨r1, hr2, hp⟩ := bind_some hp
  try dsimp only at hp
  refine e_callV (st := []) (o := 61) (as := []) f35_1 (by decide) rfl rfl (Nat.le_of_ble_eq_true rfl) (WF.t w 61 (by decide)) (Nat.le_of_ble_eq_true rfl) (p31_ok (d + 62) (h) w r1 hr2) ?_
  show ex _ 35 (4, [some (.ref (61)), none], [.int (r1)], h) = _
  refine e_istore_n (ls2 := [some (.ref (61)), some (.int (r1))]) f35_4 (Nat.le_of_ble_eq_true rfl) rfl ?_
  refine e_iload_n f35_5 rfl ?_
  refine e_sipush (v := 10021) f35_6 (by decide) ?_
  by_cases hc3 : (r1) = ((10021) : Int32)
  · rw [if_pos hc3] at hp
    refine e_icmp_eq_t f35_9 hc3 ?_
    refine ex_weak (ls := [some (.ref (61)), some (.int (r1))]) (le2_ok ⟨Or.inr rfl, Or.inr rfl, trivial⟩) ?_
    exact p35_j34_ok d F (h) (w) (r1) _ hp
  · rw [if_neg hc3] at hp
    refine e_icmp_eq_f f35_9 hc3 ?_
    refine e_iload_n f35_12 rfl ?_
    refine e_sipush (v := 10022) f35_13 (by decide) ?_
    by_cases hc4 : (r1) = ((10022) : Int32)
    · rw [if_pos hc4] at hp
      refine e_icmp_eq_t f35_16 hc4 ?_
      refine ex_weak (ls := [some (.ref (61)), some (.int (r1))]) (le2_ok ⟨Or.inr rfl, Or.inr rfl, trivial⟩) ?_
      exact p35_j34_ok d F (h) (w) (r1) _ hp
    · rw [if_neg hc4] at hp
      refine e_icmp_eq_f f35_16 hc4 ?_
      refine e_iload_n f35_19 rfl ?_
      refine e_sipush (v := 10023) f35_20 (by decide) ?_
      by_cases hc5 : (r1) = ((10023) : Int32)
      · rw [if_pos hc5] at hp
        refine e_icmp_eq_t f35_23 hc5 ?_
        refine ex_weak (ls := [some (.ref (61)), some (.int (r1))]) (le2_ok ⟨Or.inr rfl, Or.inr rfl, trivial⟩) ?_
        exact p35_j34_ok d F (h) (w) (r1) _ hp
      · rw [if_neg hc5] at hp
        refine e_icmp_eq_f f35_23 hc5 ?_
        refine e_aload_n f35_26 rfl ?_
        refine e_iconst (v := 0) f35_27 (by decide) ?_
        obtain ⟨r6, hr7, hp⟩ := bind_some hp
        try dsimp only at hp
        refine e_callV (st := []) (o := 61) (as := [.int (0)]) f35_28 (by decide) rfl rfl (Nat.le_of_ble_eq_true rfl) (WF.t w 61 (by decide)) (Nat.le_of_ble_eq_true rfl) (p32_ok (d + 62) (h) w (0) r6 hr7) ?_
        show ex _ 35 (31, [some (.ref (61)), some (.int (r1))], [], r6) = _
        refine e_goto f35_31 ?_
        have hp := Option.some.inj hp
        subst hp
        exact e_return f35_170
set_option maxRecDepth 100000 in
set_option maxHeartbeats 4000000 in
theorem p35_w (F : Nat) (h : HS) (w : WF h) (r : HS) (hp : p35 F h = some r) : WF r := by
  unfold p35 at hp
  obtain ⟨r1, hr2, hp⟩ := bind_some hp
  try dsimp only at hp
  by_cases hc3 : (r1) = ((10021) : Int32)
  · rw [if_pos hc3] at hp
    exact p35_j34_w F (h) (w) (r1) _ hp
  · rw [if_neg hc3] at hp
    by_cases hc4 : (r1) = ((10022) : Int32)
    · rw [if_pos hc4] at hp
      exact p35_j34_w F (h) (w) (r1) _ hp
    · rw [if_neg hc4] at hp
      by_cases hc5 : (r1) = ((10023) : Int32)
      · rw [if_pos hc5] at hp
        exact p35_j34_w F (h) (w) (r1) _ hp
      · rw [if_neg hc5] at hp
        obtain ⟨r6, hr7, hp⟩ := bind_some hp
        try dsimp only at hp
        have hp := Option.some.inj hp
        subst hp
        exact ((p32_w (h) w (0)  r6 hr7))
theorem f30_0 : fetch 30 0 = some (.aload_n 0, 0, 0, 0) := rfl
theorem f30_1 : fetch 30 1 = some (.iconst 0, 0, 0, 0) := rfl
theorem f30_2 : fetch 30 2 = some (.putfield 34, 2, 2, 0) := rfl
theorem f30_5 : fetch 30 5 = some (.aload_n 0, 0, 0, 0) := rfl
theorem f30_6 : fetch 30 6 = some (.iconst 0, 0, 0, 0) := rfl
theorem f30_7 : fetch 30 7 = some (.putfield 38, 2, 3, 0) := rfl
theorem f30_10 : fetch 30 10 = some (.aload_n 0, 0, 0, 0) := rfl
theorem f30_11 : fetch 30 11 = some (.iconst 0, 0, 0, 0) := rfl
theorem f30_12 : fetch 30 12 = some (.putfield 41, 2, 4, 0) := rfl
theorem f30_15 : fetch 30 15 = some (.aload_n 0, 0, 0, 0) := rfl
theorem f30_16 : fetch 30 16 = some (.iconst 0, 0, 0, 0) := rfl
theorem f30_17 : fetch 30 17 = some (.putfield 44, 2, 5, 0) := rfl
theorem f30_20 : fetch 30 20 = some (.aload_n 0, 0, 0, 0) := rfl
theorem f30_21 : fetch 30 21 = some (.iconst 0, 0, 0, 0) := rfl
theorem f30_22 : fetch 30 22 = some (.putfield 47, 2, 6, 0) := rfl
theorem f30_25 : fetch 30 25 = some (.aload_n 0, 0, 0, 0) := rfl
theorem f30_26 : fetch 30 26 = some (.invokevirtual 50, 35, 0, 0) := rfl
theorem f30_29 : fetch 30 29 = some (.iconst 0, 0, 0, 0) := rfl
theorem f30_30 : fetch 30 30 = some (.istore_n 1, 0, 0, 0) := rfl
theorem f30_31 : fetch 30 31 = some (.iload_n 1, 0, 0, 0) := rfl
theorem f30_32 : fetch 30 32 = some (.sipush 400, 0, 0, 0) := rfl
theorem f30_35 : fetch 30 35 = some (.if_icmp .ge 48, 83, 0, 0) := rfl
theorem f30_38 : fetch 30 38 = some (.aload_n 0, 0, 0, 0) := rfl
theorem f30_39 : fetch 30 39 = some (.getfield 38, 2, 3, 0) := rfl
theorem f30_42 : fetch 30 42 = some (.ifCond .ne 41, 83, 0, 0) := rfl
theorem f30_45 : fetch 30 45 = some (.aload_n 0, 0, 0, 0) := rfl
theorem f30_46 : fetch 30 46 = some (.invokevirtual 53, 31, 0, 0) := rfl
theorem f30_49 : fetch 30 49 = some (.sipush 10002, 0, 0, 0) := rfl
theorem f30_52 : fetch 30 52 = some (.if_icmp .eq 31, 83, 0, 0) := rfl
theorem f30_55 : fetch 30 55 = some (.aload_n 0, 0, 0, 0) := rfl
theorem f30_56 : fetch 30 56 = some (.sipush 10040, 0, 0, 0) := rfl
theorem f30_59 : fetch 30 59 = some (.invokevirtual 57, 33, 1, 0) := rfl
theorem f30_62 : fetch 30 62 = some (.ifCond .eq 10, 72, 0, 0) := rfl
theorem f30_65 : fetch 30 65 = some (.aload_n 0, 0, 0, 0) := rfl
theorem f30_66 : fetch 30 66 = some (.invokevirtual 50, 35, 0, 0) := rfl
theorem f30_69 : fetch 30 69 = some (.goto 8, 77, 0, 0) := rfl
theorem f30_72 : fetch 30 72 = some (.aload_n 0, 0, 0, 0) := rfl
theorem f30_73 : fetch 30 73 = some (.iconst 0, 0, 0, 0) := rfl
theorem f30_74 : fetch 30 74 = some (.invokevirtual 61, 32, 1, 0) := rfl
theorem f30_77 : fetch 30 77 = some (.iinc 1 1, 0, 0, 0) := rfl
theorem f30_80 : fetch 30 80 = some (.goto (-49), 31, 0, 0) := rfl
theorem f30_83 : fetch 30 83 = some (.aload_n 0, 0, 0, 0) := rfl
theorem f30_84 : fetch 30 84 = some (.getfield 38, 2, 3, 0) := rfl
theorem f30_87 : fetch 30 87 = some (.ireturn, 0, 0, 0) := rfl
set_option maxRecDepth 100000 in
set_option maxHeartbeats 4000000 in
theorem p30_j77_ok (d : Nat) (F : Nat) (K31 : HS → Int32 → Option (Int32 × HS)) (hK31 : ∀ (h : HS) (w : WF h) (u1 : Int32) (r : Int32 × HS), K31 h u1 = some r → ex (d + 64) 30 (31, [some (.ref (61)), some (.int (u1))], [], h) = some (some (.int (r.1)), r.2)) (h : HS) (w : WF h) (v1 : Int32) (r : Int32 × HS) (hp : p30_j77 F K31 h v1 = some r) : ex (d + 64) 30 (77, [some (.ref (61)), some (.int (v1))], [], h) = some (some (.int (r.1)), r.2) := by
  unfold p30_j77 at hp
  refine e_iinc (ls2 := [some (.ref (61)), some (.int ((v1) + 1))]) f30_77 (by decide) rfl rfl ?_
  refine e_goto f30_80 ?_
  refine ex_weak (ls := [some (.ref (61)), some (.int ((v1) + 1))]) (le2_ok ⟨Or.inr rfl, Or.inr rfl, trivial⟩) ?_
  exact hK31 (h) (w) ((v1) + 1) _ hp
set_option maxRecDepth 100000 in
set_option maxHeartbeats 4000000 in
theorem p30_j77_w (F : Nat) (K31 : HS → Int32 → Option (Int32 × HS)) (hK31 : ∀ (h : HS) (w : WF h) (u1 : Int32) (r : Int32 × HS), K31 h u1 = some r → WF r.2) (h : HS) (w : WF h) (v1 : Int32) (r : Int32 × HS) (hp : p30_j77 F K31 h v1 = some r) : WF r.2 := by
  unfold p30_j77 at hp
  exact hK31 (h) (w) ((v1) + 1) _ hp
set_option maxRecDepth 100000 in
set_option maxHeartbeats 4000000 in
theorem p30_j83_ok (d : Nat) (F : Nat) (h : HS) (w : WF h) (r : Int32 × HS) (hp : p30_j83 F h = some r) : ex (d + 64) 30 (83, [some (.ref (61)), none], [], h) = some (some (.int (r.1)), r.2) := by
  unfold p30_j83 at hp
  refine e_aload_n f30_83 rfl ?_
  refine e_getI f30_84 (WF.t w 61 (by decide)) (by decide) ?_
  have hp := Option.some.inj hp
  subst hp
  exact e_ireturn f30_87 (Or.inl rfl)
set_option maxRecDepth 100000 in
set_option maxHeartbeats 4000000 in
theorem p30_j83_w (F : Nat) (h : HS) (w : WF h) (r : Int32 × HS) (hp : p30_j83 F h = some r) : WF r.2 := by
  unfold p30_j83 at hp
  have hp := Option.some.inj hp
  subst hp
  exact (w)
set_option maxRecDepth 100000 in
set_option maxHeartbeats 4000000 in
theorem p30_L31_ok (d : Nat) (F : Nat) : ∀ (n : Nat) (h : HS) (w : WF h) (v1 : Int32) (r : Int32 × HS), p30_L31 F n h v1 = some r → ex (d + 64) 30 (31, [some (.ref (61)), some (.int (v1))], [], h) = some (some (.int (r.1)), r.2) := by
  intro n
  induction n with
  | zero => intro h w v1 r hp; cases hp
  | succ n ih =>
    intro h w v1 r hp
    unfold p30_L31 at hp
    refine e_iload_n f30_31 rfl ?_
    refine e_sipush (v := 400) f30_32 (by decide) ?_
    by_cases hc3 : (v1) < ((400) : Int32)
    · rw [if_pos hc3] at hp
      refine e_icmp_ge_f f30_35 hc3 ?_
      refine e_aload_n f30_38 rfl ?_
      refine e_getI f30_39 (WF.t w 61 (by decide)) (by decide) ?_
      by_cases hc4 : (hI (h) (61) 3) = (0 : Int32)
      · rw [if_pos hc4] at hp
        refine e_if_ne_f f30_42 hc4 ?_
        refine e_aload_n f30_45 rfl ?_
        obtain ⟨r5, hr6, hp⟩ := bind_some hp
        try dsimp only at hp
        refine e_callV (st := []) (o := 61) (as := []) f30_46 (by decide) rfl rfl (Nat.le_of_ble_eq_true rfl) (WF.t w 61 (by decide)) (Nat.le_of_ble_eq_true rfl) (p31_ok (d + 63) (h) w r5 hr6) ?_
        show ex _ 30 (49, [some (.ref (61)), some (.int (v1))], [.int (r5)], h) = _
        refine e_sipush (v := 10002) f30_49 (by decide) ?_
        by_cases hc7 : (r5) = ((10002) : Int32)
        · rw [if_pos hc7] at hp
          refine e_icmp_eq_t f30_52 hc7 ?_
          refine ex_weak (ls := [some (.ref (61)), none]) (le2_ok ⟨Or.inr rfl, Or.inl rfl, trivial⟩) ?_
          exact p30_j83_ok d F (h) (w)  _ hp
        · rw [if_neg hc7] at hp
          refine e_icmp_eq_f f30_52 hc7 ?_
          refine e_aload_n f30_55 rfl ?_
          refine e_sipush (v := 10040) f30_56 (by decide) ?_
          obtain ⟨r8, hr9, hp⟩ := bind_some hp
          try dsimp only at hp
          refine e_callV (st := []) (o := 61) (as := [.int (10040)]) f30_59 (by decide) rfl rfl (Nat.le_of_ble_eq_true rfl) (WF.t w 61 (by decide)) (Nat.le_of_ble_eq_true rfl) (p33_ok (d + 63) (h) w (10040) r8 hr9) ?_
          show ex _ 30 (62, [some (.ref (61)), some (.int (v1))], [.int (r8.1)], r8.2) = _
          by_cases hc10 : (r8.1) = (0 : Int32)
          · rw [if_pos hc10] at hp
            refine e_if_eq_t f30_62 hc10 ?_
            refine e_aload_n f30_72 rfl ?_
            refine e_iconst (v := 0) f30_73 (by decide) ?_
            obtain ⟨r11, hr12, hp⟩ := bind_some hp
            try dsimp only at hp
            refine e_callV (st := []) (o := 61) (as := [.int (0)]) f30_74 (by decide) rfl rfl (Nat.le_of_ble_eq_true rfl) (WF.t (p33_w (h) w (10040)  r8 hr9) 61 (by decide)) (Nat.le_of_ble_eq_true rfl) (p32_ok (d + 63) (r8.2) (p33_w (h) w (10040)  r8 hr9) (0) r11 hr12) ?_
            show ex _ 30 (77, [some (.ref (61)), some (.int (v1))], [], r11) = _
            refine ex_weak (ls := [some (.ref (61)), some (.int (v1))]) (le2_ok ⟨Or.inr rfl, Or.inr rfl, trivial⟩) ?_
            exact p30_j77_ok d F ((p30_L31 F n)) (ih) (r11) ((p32_w (r8.2) (p33_w (h) w (10040)  r8 hr9) (0)  r11 hr12)) (v1) _ hp
          · rw [if_neg hc10] at hp
            refine e_if_eq_f f30_62 hc10 ?_
            refine e_aload_n f30_65 rfl ?_
            obtain ⟨r13, hr14, hp⟩ := bind_some hp
            try dsimp only at hp
            refine e_callV (st := []) (o := 61) (as := []) f30_66 (by decide) rfl rfl (Nat.le_of_ble_eq_true rfl) (WF.t (p33_w (h) w (10040)  r8 hr9) 61 (by decide)) (Nat.le_of_ble_eq_true rfl) (p35_ok d F (r8.2) (p33_w (h) w (10040)  r8 hr9) r13 hr14) ?_
            show ex _ 30 (69, [some (.ref (61)), some (.int (v1))], [], r13) = _
            refine e_goto f30_69 ?_
            refine ex_weak (ls := [some (.ref (61)), some (.int (v1))]) (le2_ok ⟨Or.inr rfl, Or.inr rfl, trivial⟩) ?_
            exact p30_j77_ok d F ((p30_L31 F n)) (ih) (r13) ((p35_w F (r8.2) (p33_w (h) w (10040)  r8 hr9)  r13 hr14)) (v1) _ hp
      · rw [if_neg hc4] at hp
        refine e_if_ne_t f30_42 hc4 ?_
        refine ex_weak (ls := [some (.ref (61)), none]) (le2_ok ⟨Or.inr rfl, Or.inl rfl, trivial⟩) ?_
        exact p30_j83_ok d F (h) (w)  _ hp
    · rw [if_neg hc3] at hp
      refine e_icmp_ge_t f30_35 hc3 ?_
      refine ex_weak (ls := [some (.ref (61)), none]) (le2_ok ⟨Or.inr rfl, Or.inl rfl, trivial⟩) ?_
      exact p30_j83_ok d F (h) (w)  _ hp
set_option maxRecDepth 100000 in
set_option maxHeartbeats 4000000 in
theorem p30_L31_w (F : Nat) : ∀ (n : Nat) (h : HS) (w : WF h) (v1 : Int32) (r : Int32 × HS), p30_L31 F n h v1 = some r → WF r.2 := by
  intro n
  induction n with
  | zero => intro h w v1 r hp; cases hp
  | succ n ih =>
    intro h w v1 r hp
    unfold p30_L31 at hp
    by_cases hc3 : (v1) < ((400) : Int32)
    · rw [if_pos hc3] at hp
      by_cases hc4 : (hI (h) (61) 3) = (0 : Int32)
      · rw [if_pos hc4] at hp
        obtain ⟨r5, hr6, hp⟩ := bind_some hp
        try dsimp only at hp
        by_cases hc7 : (r5) = ((10002) : Int32)
        · rw [if_pos hc7] at hp
          exact p30_j83_w F (h) (w)  _ hp
        · rw [if_neg hc7] at hp
          obtain ⟨r8, hr9, hp⟩ := bind_some hp
          try dsimp only at hp
          by_cases hc10 : (r8.1) = (0 : Int32)
          · rw [if_pos hc10] at hp
            obtain ⟨r11, hr12, hp⟩ := bind_some hp
            try dsimp only at hp
            exact p30_j77_w F ((p30_L31 F n)) (ih) (r11) ((p32_w (r8.2) (p33_w (h) w (10040)  r8 hr9) (0)  r11 hr12)) (v1) _ hp
          · rw [if_neg hc10] at hp
            obtain ⟨r13, hr14, hp⟩ := bind_some hp
            try dsimp only at hp
            exact p30_j77_w F ((p30_L31 F n)) (ih) (r13) ((p35_w F (r8.2) (p33_w (h) w (10040)  r8 hr9)  r13 hr14)) (v1) _ hp
      · rw [if_neg hc4] at hp
        exact p30_j83_w F (h) (w)  _ hp
    · rw [if_neg hc3] at hp
      exact p30_j83_w F (h) (w)  _ hp
set_option maxRecDepth 100000 in
set_option maxHeartbeats 4000000 in
theorem p30_ok (d : Nat) (F : Nat) (h : HS) (w : WF h) (r : Int32 × HS) (hp : p30 F h = some r) : ex (d + 64) 30 (ent 30 [.ref (61)] h) = some (some (.int (r.1)), r.2) := by
  rw [show ent 30 [.ref (61)] h = (0, [some (.ref (61)), none], [], h) from by  rfl]
  refine ex_weak (ls := [some (.ref (61)), none]) (le2_ok ⟨Or.inr rfl, Or.inr rfl, trivial⟩) ?_
  unfold p30 at hp
  refine e_aload_n f30_0 rfl ?_
  refine e_iconst (v := 0) f30_1 (by decide) ?_
  refine e_putI f30_2 (WF.t w 61 (by decide)) rfl ?_
  refine e_aload_n f30_5 rfl ?_
  refine e_iconst (v := 0) f30_6 (by decide) ?_
  refine e_putI f30_7 (WF.t w 61 (by decide)) rfl ?_
  refine e_aload_n f30_10 rfl ?_
  refine e_iconst (v := 0) f30_11 (by decide) ?_
  refine e_putI f30_12 (WF.t w 61 (by decide)) rfl ?_
  refine e_aload_n f30_15 rfl ?_
  refine e_iconst (v := 0) f30_16 (by decide) ?_
  refine e_putI f30_17 (WF.t w 61 (by decide)) rfl ?_
  refine e_aload_n f30_20 rfl ?_
  refine e_iconst (v := 0) f30_21 (by decide) ?_
  refine e_putI f30_22 (WF.t w 61 (by decide)) rfl ?_
  refine e_aload_n f30_25 rfl ?_
  obtain ⟨r1, hr2, hp⟩ := bind_some hp
  try dsimp only at hp
  refine e_callV (st := []) (o := 61) (as := []) f30_26 (by decide) rfl rfl (Nat.le_of_ble_eq_true rfl) (WF.t w 61 (by decide)) (Nat.le_of_ble_eq_true rfl) (p35_ok d F (hsI (hsI (hsI (hsI (hsI (h) (61) 2 (0)) (61) 3 (0)) (61) 4 (0)) (61) 5 (0)) (61) 6 (0)) w r1 hr2) ?_
  show ex _ 30 (29, [some (.ref (61)), none], [], r1) = _
  refine e_iconst (v := 0) f30_29 (by decide) ?_
  refine e_istore_n (ls2 := [some (.ref (61)), some (.int (0))]) f30_30 (Nat.le_of_ble_eq_true rfl) rfl ?_
  refine ex_weak (ls := [some (.ref (61)), some (.int (0))]) (le2_ok ⟨Or.inr rfl, Or.inr rfl, trivial⟩) ?_
  exact p30_L31_ok d F F (r1) ((p35_w F (hsI (hsI (hsI (hsI (hsI (h) (61) 2 (0)) (61) 3 (0)) (61) 4 (0)) (61) 5 (0)) (61) 6 (0)) w  r1 hr2)) (0) _ hp
set_option maxRecDepth 100000 in
set_option maxHeartbeats 4000000 in
theorem p30_w (F : Nat) (h : HS) (w : WF h) (r : Int32 × HS) (hp : p30 F h = some r) : WF r.2 := by
  unfold p30 at hp
  obtain ⟨r1, hr2, hp⟩ := bind_some hp
  try dsimp only at hp
  exact p30_L31_w F F (r1) ((p35_w F (hsI (hsI (hsI (hsI (hsI (h) (61) 2 (0)) (61) 3 (0)) (61) 4 (0)) (61) 5 (0)) (61) 6 (0)) w  r1 hr2)) (0) _ hp
theorem f43_0 : fetch 43 0 = some (.iload_n 0, 0, 0, 0) := rfl
theorem f43_1 : fetch 43 1 = some (.iconst 1, 0, 0, 0) := rfl
theorem f43_2 : fetch 43 2 = some (.bipush 8, 0, 0, 0) := rfl
theorem f43_4 : fetch 43 4 = some (.invokestatic 43, 166, 3, 2) := rfl
theorem f43_7 : fetch 43 7 = some (.ifCond .eq 25, 32, 0, 0) := rfl
theorem f43_10 : fetch 43 10 = some (.iload_n 1, 0, 0, 0) := rfl
theorem f43_11 : fetch 43 11 = some (.iconst 1, 0, 0, 0) := rfl
theorem f43_12 : fetch 43 12 = some (.bipush 8, 0, 0, 0) := rfl
theorem f43_14 : fetch 43 14 = some (.invokestatic 43, 166, 3, 2) := rfl
theorem f43_17 : fetch 43 17 = some (.ifCond .eq 15, 32, 0, 0) := rfl
theorem f43_20 : fetch 43 20 = some (.iload_n 0, 0, 0, 0) := rfl
theorem f43_21 : fetch 43 21 = some (.iload_n 1, 0, 0, 0) := rfl
theorem f43_22 : fetch 43 22 = some (.imul, 0, 0, 0) := rfl
theorem f43_23 : fetch 43 23 = some (.bipush 8, 0, 0, 0) := rfl
theorem f43_25 : fetch 43 25 = some (.if_icmp .gt 7, 32, 0, 0) := rfl
theorem f43_28 : fetch 43 28 = some (.iconst 1, 0, 0, 0) := rfl
theorem f43_29 : fetch 43 29 = some (.goto 4, 33, 0, 0) := rfl
theorem f43_32 : fetch 43 32 = some (.iconst 0, 0, 0, 0) := rfl
theorem f43_33 : fetch 43 33 = some (.ireturn, 0, 0, 1) := rfl
set_option maxRecDepth 100000 in
set_option maxHeartbeats 4000000 in
theorem p43_ok (d : Nat) (h : HS) (w : WF h) (a0 : Int32) (a1 : Int32) (r : Int32) (hp : p43 h a0 a1 = some r) : ex (d + 1) 43 (ent 43 [.int (a0), .int (a1)] h) = some (some (.int (r)), h) := by
  rw [show ent 43 [.int (a0), .int (a1)] h = (0, [some (.int (a0)), some (.int (a1))], [], h) from by  rfl]
  refine ex_weak (ls := [some (.int (a0)), some (.int (a1))]) (le2_ok ⟨Or.inr rfl, Or.inr rfl, trivial⟩) ?_
  unfold p43 at hp
  refine e_iload_n f43_0 rfl ?_
  refine e_iconst (v := 1) f43_1 (by decide) ?_
  refine e_bipush (v := 8) f43_2 (by decide) ?_
  obtain ⟨r1, hr2, hp⟩ := bind_some hp
  try dsimp only at hp
  refine e_callS (st := []) (as := [.int (a0), .int (1), .int (8)]) f43_4 (by decide) rfl rfl (Nat.le_of_ble_eq_true rfl) (Nat.le_of_ble_eq_true rfl) (p166_ok d (h) w (a0) (1) (8) r1 hr2) ?_
  show ex _ 43 (7, [some (.int (a0)), some (.int (a1))], [.int (r1)], h) = _
  by_cases hc3 : (r1) = (0 : Int32)
  · rw [if_pos hc3] at hp
    refine e_if_eq_t f43_7 hc3 ?_
    refine e_iconst (v := 0) f43_32 (by decide) ?_
    have hp := Option.some.inj hp
    subst hp
    exact e_ireturn f43_33 (by decide)
  · rw [if_neg hc3] at hp
    refine e_if_eq_f f43_7 hc3 ?_
    refine e_iload_n f43_10 rfl ?_
    refine e_iconst (v := 1) f43_11 (by decide) ?_
    refine e_bipush (v := 8) f43_12 (by decide) ?_
    obtain ⟨r4, hr5, hp⟩ := bind_some hp
    try dsimp only at hp
    refine e_callS (st := []) (as := [.int (a1), .int (1), .int (8)]) f43_14 (by decide) rfl rfl (Nat.le_of_ble_eq_true rfl) (Nat.le_of_ble_eq_true rfl) (p166_ok d (h) w (a1) (1) (8) r4 hr5) ?_
    show ex _ 43 (17, [some (.int (a0)), some (.int (a1))], [.int (r4)], h) = _
    by_cases hc6 : (r4) = (0 : Int32)
    · rw [if_pos hc6] at hp
      refine e_if_eq_t f43_17 hc6 ?_
      refine e_iconst (v := 0) f43_32 (by decide) ?_
      have hp := Option.some.inj hp
      subst hp
      exact e_ireturn f43_33 (by decide)
    · rw [if_neg hc6] at hp
      refine e_if_eq_f f43_17 hc6 ?_
      refine e_iload_n f43_20 rfl ?_
      refine e_iload_n f43_21 rfl ?_
      refine e_imul f43_22 ?_
      refine e_bipush (v := 8) f43_23 (by decide) ?_
      by_cases hc7 : (8) < (((a0) * (a1)) : Int32)
      · rw [if_pos hc7] at hp
        refine e_icmp_gt_t f43_25 hc7 ?_
        refine e_iconst (v := 0) f43_32 (by decide) ?_
        have hp := Option.some.inj hp
        subst hp
        exact e_ireturn f43_33 (by decide)
      · rw [if_neg hc7] at hp
        refine e_icmp_gt_f f43_25 hc7 ?_
        refine e_iconst (v := 1) f43_28 (by decide) ?_
        refine e_goto f43_29 ?_
        have hp := Option.some.inj hp
        subst hp
        exact e_ireturn f43_33 (by decide)
theorem f45_0 : fetch 45 0 = some (.iconst 0, 0, 0, 0) := rfl
theorem f45_1 : fetch 45 1 = some (.istore_n 2, 0, 0, 0) := rfl
theorem f45_2 : fetch 45 2 = some (.iconst 0, 0, 0, 0) := rfl
theorem f45_3 : fetch 45 3 = some (.istore_n 3, 0, 0, 0) := rfl
theorem f45_4 : fetch 45 4 = some (.iload_n 3, 0, 0, 0) := rfl
theorem f45_5 : fetch 45 5 = some (.aload_n 0, 0, 0, 0) := rfl
theorem f45_6 : fetch 45 6 = some (.getfield 39, 3, 0, 2) := rfl
theorem f45_9 : fetch 45 9 = some (.getfield 85, 8, 1, 0) := rfl
theorem f45_12 : fetch 45 12 = some (.if_icmp .ge 38, 50, 0, 0) := rfl
theorem f45_15 : fetch 45 15 = some (.aload_n 0, 0, 0, 0) := rfl
theorem f45_16 : fetch 45 16 = some (.getfield 39, 3, 0, 2) := rfl
theorem f45_19 : fetch 45 19 = some (.getfield 88, 8, 3, 2) := rfl
theorem f45_22 : fetch 45 22 = some (.iload_n 3, 0, 0, 0) := rfl
theorem f45_23 : fetch 45 23 = some (.iaload, 0, 0, 0) := rfl
theorem f45_24 : fetch 45 24 = some (.iload_n 1, 0, 0, 0) := rfl
theorem f45_25 : fetch 45 25 = some (.if_icmp .ne 19, 44, 0, 0) := rfl
theorem f45_28 : fetch 45 28 = some (.aload_n 0, 0, 0, 0) := rfl
theorem f45_29 : fetch 45 29 = some (.getfield 39, 3, 0, 2) := rfl
theorem f45_32 : fetch 45 32 = some (.getfield 91, 8, 5, 2) := rfl
theorem f45_35 : fetch 45 35 = some (.iload_n 3, 0, 0, 0) := rfl
theorem f45_36 : fetch 45 36 = some (.iaload, 0, 0, 0) := rfl
theorem f45_37 : fetch 45 37 = some (.iconst (-1), 0, 0, 0) := rfl
theorem f45_38 : fetch 45 38 = some (.if_icmp .ne 6, 44, 0, 0) := rfl
theorem f45_41 : fetch 45 41 = some (.iinc 2 1, 0, 0, 0) := rfl
theorem f45_44 : fetch 45 44 = some (.iinc 3 1, 0, 0, 0) := rfl
theorem f45_47 : fetch 45 47 = some (.goto (-43), 4, 0, 0) := rfl
theorem f45_50 : fetch 45 50 = some (.iload_n 2, 0, 0, 0) := rfl
theorem f45_51 : fetch 45 51 = some (.ireturn, 0, 0, 0) := rfl
set_option maxRecDepth 100000 in
set_option maxHeartbeats 4000000 in
theorem p45_j44_ok (d : Nat) (F : Nat) (a0 : Int32) (K4 : Int32 → Int32 → Option (Int32)) (h : HS) (w : WF h) (hK4 : ∀ (u2 : Int32) (u3 : Int32) (r : Int32), K4 u2 u3 = some r → ex (d + 0) 45 (4, [some (.ref (39)), some (.int (a0)), some (.int (u2)), some (.int (u3))], [], h) = some (some (.int (r)), h)) (v2 : Int32) (v3 : Int32) (r : Int32) (hp : p45_j44 F a0 K4 h v2 v3 = some r) : ex (d + 0) 45 (44, [some (.ref (39)), some (.int (a0)), some (.int (v2)), some (.int (v3))], [], h) = some (some (.int (r)), h) := by
  unfold p45_j44 at hp
  refine e_iinc (ls2 := [some (.ref (39)), some (.int (a0)), some (.int (v2)), some (.int ((v3) + 1))]) f45_44 (by decide) rfl rfl ?_
  refine e_goto f45_47 ?_
  refine ex_weak (ls := [some (.ref (39)), some (.int (a0)), some (.int (v2)), some (.int ((v3) + 1))]) (le2_ok ⟨Or.inr rfl, Or.inr rfl, Or.inr rfl, Or.inr rfl, trivial⟩) ?_
  exact hK4 (v2) ((v3) + 1) _ hp
set_option maxRecDepth 100000 in
set_option maxHeartbeats 4000000 in
theorem p45_L4_ok (d : Nat) (F : Nat) (a0 : Int32) (h : HS) (w : WF h)  : ∀ (n : Nat) (v2 : Int32) (v3 : Int32) (r : Int32), p45_L4 F a0 n h v2 v3 = some r → ex (d + 0) 45 (4, [some (.ref (39)), some (.int (a0)), some (.int (v2)), some (.int (v3))], [], h) = some (some (.int (r)), h) := by
  intro n
  induction n with
  | zero => intro v2 v3 r hp; cases hp
  | succ n ih =>
    intro v2 v3 r hp
    unfold p45_L4 at hp
    refine e_iload_n f45_4 rfl ?_
    refine e_aload_n f45_5 rfl ?_
    refine e_getR f45_6 (WF.t w 39 (by decide)) rfl (WF.r (q := 33) w 39 0 (by decide)) ?_
    refine e_getI f45_9 (WF.t w 33 (by decide)) (by decide) ?_
    by_cases hc1 : (v3) < ((hI (h) (33) 1) : Int32)
    · rw [if_pos hc1] at hp
      refine e_icmp_ge_f f45_12 hc1 ?_
      refine e_aload_n f45_15 rfl ?_
      refine e_getR f45_16 (WF.t w 39 (by decide)) rfl (WF.r (q := 33) w 39 0 (by decide)) ?_
      refine e_getR f45_19 (WF.t w 33 (by decide)) rfl (WF.r (q := 35) w 33 3 (by decide)) ?_
      refine e_iload_n f45_22 rfl ?_
      by_cases hg2 : (v3) < (0 : Int32) ∨ 200 ≤ (v3).toNatClampNeg
      · rw [if_pos hg2] at hp; cases hp
      rw [if_neg hg2] at hp
      refine e_iaload f45_23 (Or.inl (WF.t w 35 (by decide))) (WF.n w 35 (by decide)) hg2 ?_
      refine e_iload_n f45_24 rfl ?_
      by_cases hc3 : (hI (h) (35) (v3).toNatClampNeg) = ((a0) : Int32)
      · rw [if_pos hc3] at hp
        refine e_icmp_ne_f f45_25 hc3 ?_
        refine e_aload_n f45_28 rfl ?_
        refine e_getR f45_29 (WF.t w 39 (by decide)) rfl (WF.r (q := 33) w 39 0 (by decide)) ?_
        refine e_getR f45_32 (WF.t w 33 (by decide)) rfl (WF.r (q := 37) w 33 5 (by decide)) ?_
        refine e_iload_n f45_35 rfl ?_
        by_cases hg4 : (v3) < (0 : Int32) ∨ 200 ≤ (v3).toNatClampNeg
        · rw [if_pos hg4] at hp; cases hp
        rw [if_neg hg4] at hp
        refine e_iaload f45_36 (Or.inl (WF.t w 37 (by decide))) (WF.n w 37 (by decide)) hg4 ?_
        refine e_iconst (v := -1) f45_37 (by decide) ?_
        by_cases hc5 : (hI (h) (37) (v3).toNatClampNeg) = (((-1)) : Int32)
        · rw [if_pos hc5] at hp
          refine e_icmp_ne_f f45_38 hc5 ?_
          refine e_iinc (ls2 := [some (.ref (39)), some (.int (a0)), some (.int ((v2) + 1)), some (.int (v3))]) f45_41 (by decide) rfl rfl ?_
          refine ex_weak (ls := [some (.ref (39)), some (.int (a0)), some (.int ((v2) + 1)), some (.int (v3))]) (le2_ok ⟨Or.inr rfl, Or.inr rfl, Or.inr rfl, Or.inr rfl, trivial⟩) ?_
          exact p45_j44_ok d F a0 ((p45_L4 F a0 n h)) (h) (w) (ih) ((v2) + 1) (v3) _ hp
        · rw [if_neg hc5] at hp
          refine e_icmp_ne_t f45_38 hc5 ?_
          refine ex_weak (ls := [some (.ref (39)), some (.int (a0)), some (.int (v2)), some (.int (v3))]) (le2_ok ⟨Or.inr rfl, Or.inr rfl, Or.inr rfl, Or.inr rfl, trivial⟩) ?_
          exact p45_j44_ok d F a0 ((p45_L4 F a0 n h)) (h) (w) (ih) (v2) (v3) _ hp
      · rw [if_neg hc3] at hp
        refine e_icmp_ne_t f45_25 hc3 ?_
        refine ex_weak (ls := [some (.ref (39)), some (.int (a0)), some (.int (v2)), some (.int (v3))]) (le2_ok ⟨Or.inr rfl, Or.inr rfl, Or.inr rfl, Or.inr rfl, trivial⟩) ?_
        exact p45_j44_ok d F a0 ((p45_L4 F a0 n h)) (h) (w) (ih) (v2) (v3) _ hp
    · rw [if_neg hc1] at hp
      refine e_icmp_ge_t f45_12 hc1 ?_
      refine e_iload_n f45_50 rfl ?_
      have hp := Option.some.inj hp
      subst hp
      exact e_ireturn f45_51 (Or.inl rfl)
set_option maxRecDepth 100000 in
set_option maxHeartbeats 4000000 in
theorem p45_ok (d : Nat) (F : Nat) (h : HS) (w : WF h) (a0 : Int32) (r : Int32) (hp : p45 F h a0 = some r) : ex (d + 0) 45 (ent 45 [.ref (39), .int (a0)] h) = some (some (.int (r)), h) := by
  rw [show ent 45 [.ref (39), .int (a0)] h = (0, [some (.ref (39)), some (.int (a0)), none, none], [], h) from by  rfl]
  refine ex_weak (ls := [some (.ref (39)), some (.int (a0)), none, none]) (le2_ok ⟨Or.inr rfl, Or.inr rfl, Or.inr rfl, Or.inr rfl, trivial⟩) ?_
  unfold p45 at hp
  refine e_iconst (v := 0) f45_0 (by decide) ?_
  refine e_istore_n (ls2 := [some (.ref (39)), some (.int (a0)), some (.int (0)), none]) f45_1 (Nat.le_of_ble_eq_true rfl) rfl ?_
  refine e_iconst (v := 0) f45_2 (by decide) ?_
  refine e_istore_n (ls2 := [some (.ref (39)), some (.int (a0)), some (.int (0)), some (.int (0))]) f45_3 (Nat.le_of_ble_eq_true rfl) rfl ?_
  refine ex_weak (ls := [some (.ref (39)), some (.int (a0)), some (.int (0)), some (.int (0))]) (le2_ok ⟨Or.inr rfl, Or.inr rfl, Or.inr rfl, Or.inr rfl, trivial⟩) ?_
  exact p45_L4_ok d F a0 (h) (w) F (0) (0) _ hp
theorem f46_0 : fetch 46 0 = some (.iconst 0, 0, 0, 0) := rfl
theorem f46_1 : fetch 46 1 = some (.istore_n 2, 0, 0, 0) := rfl
theorem f46_2 : fetch 46 2 = some (.iconst 0, 0, 0, 0) := rfl
theorem f46_3 : fetch 46 3 = some (.istore_n 3, 0, 0, 0) := rfl
theorem f46_4 : fetch 46 4 = some (.iload_n 3, 0, 0, 0) := rfl
theorem f46_5 : fetch 46 5 = some (.aload_n 0, 0, 0, 0) := rfl
theorem f46_6 : fetch 46 6 = some (.getfield 39, 3, 0, 2) := rfl
theorem f46_9 : fetch 46 9 = some (.getfield 85, 8, 1, 0) := rfl
theorem f46_12 : fetch 46 12 = some (.if_icmp .ge 53, 65, 0, 0) := rfl
theorem f46_15 : fetch 46 15 = some (.iload_n 2, 0, 0, 0) := rfl
theorem f46_16 : fetch 46 16 = some (.aload_n 0, 0, 0, 0) := rfl
theorem f46_17 : fetch 46 17 = some (.getfield 61, 3, 1, 0) := rfl
theorem f46_20 : fetch 46 20 = some (.if_icmp .ge 45, 65, 0, 0) := rfl
theorem f46_23 : fetch 46 23 = some (.aload_n 0, 0, 0, 0) := rfl
theorem f46_24 : fetch 46 24 = some (.getfield 39, 3, 0, 2) := rfl
theorem f46_27 : fetch 46 27 = some (.getfield 88, 8, 3, 2) := rfl
theorem f46_30 : fetch 46 30 = some (.iload_n 3, 0, 0, 0) := rfl
theorem f46_31 : fetch 46 31 = some (.iaload, 0, 0, 0) := rfl
theorem f46_32 : fetch 46 32 = some (.iload_n 1, 0, 0, 0) := rfl
theorem f46_33 : fetch 46 33 = some (.if_icmp .ne 26, 59, 0, 0) := rfl
theorem f46_36 : fetch 46 36 = some (.aload_n 0, 0, 0, 0) := rfl
theorem f46_37 : fetch 46 37 = some (.getfield 39, 3, 0, 2) := rfl
theorem f46_40 : fetch 46 40 = some (.getfield 91, 8, 5, 2) := rfl
theorem f46_43 : fetch 46 43 = some (.iload_n 3, 0, 0, 0) := rfl
theorem f46_44 : fetch 46 44 = some (.iaload, 0, 0, 0) := rfl
theorem f46_45 : fetch 46 45 = some (.iconst (-1), 0, 0, 0) := rfl
theorem f46_46 : fetch 46 46 = some (.if_icmp .ne 13, 59, 0, 0) := rfl
theorem f46_49 : fetch 46 49 = some (.aload_n 0, 0, 0, 0) := rfl
theorem f46_50 : fetch 46 50 = some (.getfield 9, 3, 5, 2) := rfl
theorem f46_53 : fetch 46 53 = some (.iload_n 2, 0, 0, 0) := rfl
theorem f46_54 : fetch 46 54 = some (.iload_n 3, 0, 0, 0) := rfl
theorem f46_55 : fetch 46 55 = some (.iastore, 0, 0, 0) := rfl
theorem f46_56 : fetch 46 56 = some (.iinc 2 1, 0, 0, 0) := rfl
theorem f46_59 : fetch 46 59 = some (.iinc 3 1, 0, 0, 0) := rfl
theorem f46_62 : fetch 46 62 = some (.goto (-58), 4, 0, 0) := rfl
theorem f46_65 : fetch 46 65 = some (.return_, 0, 0, 0) := rfl
set_option maxRecDepth 100000 in
set_option maxHeartbeats 4000000 in
theorem p46_j59_ok (d : Nat) (F : Nat) (a0 : Int32) (K4 : HS → Int32 → Int32 → Option (HS)) (hK4 : ∀ (h : HS) (w : WF h) (u2 : Int32) (u3 : Int32) (r : HS), K4 h u2 u3 = some r → ex (d + 0) 46 (4, [some (.ref (39)), some (.int (a0)), some (.int (u2)), some (.int (u3))], [], h) = some (none, r)) (h : HS) (w : WF h) (v2 : Int32) (v3 : Int32) (r : HS) (hp : p46_j59 F a0 K4 h v2 v3 = some r) : ex (d + 0) 46 (59, [some (.ref (39)), some (.int (a0)), some (.int (v2)), some (.int (v3))], [], h) = some (none, r) := by
  unfold p46_j59 at hp
  refine e_iinc (ls2 := [some (.ref (39)), some (.int (a0)), some (.int (v2)), some (.int ((v3) + 1))]) f46_59 (by decide) rfl rfl ?_
  refine e_goto f46_62 ?_
  refine ex_weak (ls := [some (.ref (39)), some (.int (a0)), some (.int (v2)), some (.int ((v3) + 1))]) (le2_ok ⟨Or.inr rfl, Or.inr rfl, Or.inr rfl, Or.inr rfl, trivial⟩) ?_
  exact hK4 (h) (w) (v2) ((v3) + 1) _ hp
set_option maxRecDepth 100000 in
set_option maxHeartbeats 4000000 in
theorem p46_j59_w (F : Nat) (a0 : Int32) (K4 : HS → Int32 → Int32 → Option (HS)) (hK4 : ∀ (h : HS) (w : WF h) (u2 : Int32) (u3 : Int32) (r : HS), K4 h u2 u3 = some r → WF r) (h : HS) (w : WF h) (v2 : Int32) (v3 : Int32) (r : HS) (hp : p46_j59 F a0 K4 h v2 v3 = some r) : WF r := by
  unfold p46_j59 at hp
  exact hK4 (h) (w) (v2) ((v3) + 1) _ hp
set_option maxRecDepth 100000 in
set_option maxHeartbeats 4000000 in
theorem p46_L4_ok (d : Nat) (F : Nat) (a0 : Int32) : ∀ (n : Nat) (h : HS) (w : WF h) (v2 : Int32) (v3 : Int32) (r : HS), p46_L4 F a0 n h v2 v3 = some r → ex (d + 0) 46 (4, [some (.ref (39)), some (.int (a0)), some (.int (v2)), some (.int (v3))], [], h) = some (none, r) := by
  intro n
  induction n with
  | zero => intro h w v2 v3 r hp; cases hp
  | succ n ih =>
    intro h w v2 v3 r hp
    unfold p46_L4 at hp
    refine e_iload_n f46_4 rfl ?_
    refine e_aload_n f46_5 rfl ?_
    refine e_getR f46_6 (WF.t w 39 (by decide)) rfl (WF.r (q := 33) w 39 0 (by decide)) ?_
    refine e_getI f46_9 (WF.t w 33 (by decide)) (by decide) ?_
    by_cases hc1 : (v3) < ((hI (h) (33) 1) : Int32)
    · rw [if_pos hc1] at hp
      refine e_icmp_ge_f f46_12 hc1 ?_
      refine e_iload_n f46_15 rfl ?_
      refine e_aload_n f46_16 rfl ?_
      refine e_getI f46_17 (WF.t w 39 (by decide)) (by decide) ?_
      by_cases hc2 : (v2) < ((hI (h) (39) 1) : Int32)
      · rw [if_pos hc2] at hp
        refine e_icmp_ge_f f46_20 hc2 ?_
        refine e_aload_n f46_23 rfl ?_
        refine e_getR f46_24 (WF.t w 39 (by decide)) rfl (WF.r (q := 33) w 39 0 (by decide)) ?_
        refine e_getR f46_27 (WF.t w 33 (by decide)) rfl (WF.r (q := 35) w 33 3 (by decide)) ?_
        refine e_iload_n f46_30 rfl ?_
        by_cases hg3 : (v3) < (0 : Int32) ∨ 200 ≤ (v3).toNatClampNeg
        · rw [if_pos hg3] at hp; cases hp
        rw [if_neg hg3] at hp
        refine e_iaload f46_31 (Or.inl (WF.t w 35 (by decide))) (WF.n w 35 (by decide)) hg3 ?_
        refine e_iload_n f46_32 rfl ?_
        by_cases hc4 : (hI (h) (35) (v3).toNatClampNeg) = ((a0) : Int32)
        · rw [if_pos hc4] at hp
          refine e_icmp_ne_f f46_33 hc4 ?_
          refine e_aload_n f46_36 rfl ?_
          refine e_getR f46_37 (WF.t w 39 (by decide)) rfl (WF.r (q := 33) w 39 0 (by decide)) ?_
          refine e_getR f46_40 (WF.t w 33 (by decide)) rfl (WF.r (q := 37) w 33 5 (by decide)) ?_
          refine e_iload_n f46_43 rfl ?_
          by_cases hg5 : (v3) < (0 : Int32) ∨ 200 ≤ (v3).toNatClampNeg
          · rw [if_pos hg5] at hp; cases hp
          rw [if_neg hg5] at hp
          refine e_iaload f46_44 (Or.inl (WF.t w 37 (by decide))) (WF.n w 37 (by decide)) hg5 ?_
          refine e_iconst (v := -1) f46_45 (by decide) ?_
          by_cases hc6 : (hI (h) (37) (v3).toNatClampNeg) = (((-1)) : Int32)
          · rw [if_pos hc6] at hp
            refine e_icmp_ne_f f46_46 hc6 ?_
            refine e_aload_n f46_49 rfl ?_
            refine e_getR f46_50 (WF.t w 39 (by decide)) rfl (WF.r (q := 40) w 39 5 (by decide)) ?_
            refine e_iload_n f46_53 rfl ?_
            refine e_iload_n f46_54 rfl ?_
            by_cases hg7 : (v2) < (0 : Int32) ∨ 8 ≤ (v2).toNatClampNeg
            · rw [if_pos hg7] at hp; cases hp
            rw [if_neg hg7] at hp
            refine e_iastore f46_55 (WF.t w 40 (by decide)) (WF.n w 40 (by decide)) hg7 ?_
            refine e_iinc (ls2 := [some (.ref (39)), some (.int (a0)), some (.int ((v2) + 1)), some (.int (v3))]) f46_56 (by decide) rfl rfl ?_
            refine ex_weak (ls := [some (.ref (39)), some (.int (a0)), some (.int ((v2) + 1)), some (.int (v3))]) (le2_ok ⟨Or.inr rfl, Or.inr rfl, Or.inr rfl, Or.inr rfl, trivial⟩) ?_
            exact p46_j59_ok d F a0 ((p46_L4 F a0 n)) (ih) (hsI (h) (40) (v2).toNatClampNeg (v3)) (w) ((v2) + 1) (v3) _ hp
          · rw [if_neg hc6] at hp
            refine e_icmp_ne_t f46_46 hc6 ?_
            refine ex_weak (ls := [some (.ref (39)), some (.int (a0)), some (.int (v2)), some (.int (v3))]) (le2_ok ⟨Or.inr rfl, Or.inr rfl, Or.inr rfl, Or.inr rfl, trivial⟩) ?_
            exact p46_j59_ok d F a0 ((p46_L4 F a0 n)) (ih) (h) (w) (v2) (v3) _ hp
        · rw [if_neg hc4] at hp
          refine e_icmp_ne_t f46_33 hc4 ?_
          refine ex_weak (ls := [some (.ref (39)), some (.int (a0)), some (.int (v2)), some (.int (v3))]) (le2_ok ⟨Or.inr rfl, Or.inr rfl, Or.inr rfl, Or.inr rfl, trivial⟩) ?_
          exact p46_j59_ok d F a0 ((p46_L4 F a0 n)) (ih) (h) (w) (v2) (v3) _ hp
      · rw [if_neg hc2] at hp
        refine e_icmp_ge_t f46_20 hc2 ?_
        have hp := Option.some.inj hp
        subst hp
        exact e_return f46_65
    · rw [if_neg hc1] at hp
      refine e_icmp_ge_t f46_12 hc1 ?_
      have hp := Option.some.inj hp
      subst hp
      exact e_return f46_65
set_option maxRecDepth 100000 in
set_option maxHeartbeats 4000000 in
theorem p46_L4_w (F : Nat) (a0 : Int32) : ∀ (n : Nat) (h : HS) (w : WF h) (v2 : Int32) (v3 : Int32) (r : HS), p46_L4 F a0 n h v2 v3 = some r → WF r := by
  intro n
  induction n with
  | zero => intro h w v2 v3 r hp; cases hp
  | succ n ih =>
    intro h w v2 v3 r hp
    unfold p46_L4 at hp
    by_cases hc1 : (v3) < ((hI (h) (33) 1) : Int32)
    · rw [if_pos hc1] at hp
      by_cases hc2 : (v2) < ((hI (h) (39) 1) : Int32)
      · rw [if_pos hc2] at hp
        by_cases hg3 : (v3) < (0 : Int32) ∨ 200 ≤ (v3).toNatClampNeg
        · rw [if_pos hg3] at hp; cases hp
        rw [if_neg hg3] at hp
        by_cases hc4 : (hI (h) (35) (v3).toNatClampNeg) = ((a0) : Int32)
        · rw [if_pos hc4] at hp
          by_cases hg5 : (v3) < (0 : Int32) ∨ 200 ≤ (v3).toNatClampNeg
          · rw [if_pos hg5] at hp; cases hp
          rw [if_neg hg5] at hp
          by_cases hc6 : (hI (h) (37) (v3).toNatClampNeg) = (((-1)) : Int32)
          · rw [if_pos hc6] at hp
            by_cases hg7 : (v2) < (0 : Int32) ∨ 8 ≤ (v2).toNatClampNeg
            · rw [if_pos hg7] at hp; cases hp
            rw [if_neg hg7] at hp
            exact p46_j59_w F a0 ((p46_L4 F a0 n)) (ih) (hsI (h) (40) (v2).toNatClampNeg (v3)) (w) ((v2) + 1) (v3) _ hp
          · rw [if_neg hc6] at hp
            exact p46_j59_w F a0 ((p46_L4 F a0 n)) (ih) (h) (w) (v2) (v3) _ hp
        · rw [if_neg hc4] at hp
          exact p46_j59_w F a0 ((p46_L4 F a0 n)) (ih) (h) (w) (v2) (v3) _ hp
      · rw [if_neg hc2] at hp
        have hp := Option.some.inj hp
        subst hp
        exact (w)
    · rw [if_neg hc1] at hp
      have hp := Option.some.inj hp
      subst hp
      exact (w)
set_option maxRecDepth 100000 in
set_option maxHeartbeats 4000000 in
theorem p46_ok (d : Nat) (F : Nat) (h : HS) (w : WF h) (a0 : Int32) (r : HS) (hp : p46 F h a0 = some r) : ex (d + 0) 46 (ent 46 [.ref (39), .int (a0)] h) = some (none, r) := by
  rw [show ent 46 [.ref (39), .int (a0)] h = (0, [some (.ref (39)), some (.int (a0)), none, none], [], h) from by  rfl]
  refine ex_weak (ls := [some (.ref (39)), some (.int (a0)), none, none]) (le2_ok ⟨Or.inr rfl, Or.inr rfl, Or.inr rfl, Or.inr rfl, trivial⟩) ?_
  unfold p46 at hp
  refine e_iconst (v := 0) f46_0 (by decide) ?_
  refine e_istore_n (ls2 := [some (.ref (39)), some (.int (a0)), some (.int (0)), none]) f46_1 (Nat.le_of_ble_eq_true rfl) rfl ?_
  refine e_iconst (v := 0) f46_2 (by decide) ?_
  refine e_istore_n (ls2 := [some (.ref (39)), some (.int (a0)), some (.int (0)), some (.int (0))]) f46_3 (Nat.le_of_ble_eq_true rfl) rfl ?_
  refine ex_weak (ls := [some (.ref (39)), some (.int (a0)), some (.int (0)), some (.int (0))]) (le2_ok ⟨Or.inr rfl, Or.inr rfl, Or.inr rfl, Or.inr rfl, trivial⟩) ?_
  exact p46_L4_ok d F a0 F (h) (w) (0) (0) _ hp
set_option maxRecDepth 100000 in
set_option maxHeartbeats 4000000 in
theorem p46_w (F : Nat) (h : HS) (w : WF h) (a0 : Int32) (r : HS) (hp : p46 F h a0 = some r) : WF r := by
  unfold p46 at hp
  exact p46_L4_w F a0 F (h) (w) (0) (0) _ hp
theorem f88_0 : fetch 88 0 = some (.aload_n 0, 0, 0, 0) := rfl
theorem f88_1 : fetch 88 1 = some (.getfield 24, 8, 6, 2) := rfl
theorem f88_4 : fetch 88 4 = some (.iload_n 1, 0, 0, 0) := rfl
theorem f88_5 : fetch 88 5 = some (.laload, 0, 0, 0) := rfl
theorem f88_6 : fetch 88 6 = some (.bipush 48, 0, 0, 0) := rfl
theorem f88_8 : fetch 88 8 = some (.bipush 16, 0, 0, 0) := rfl
theorem f88_10 : fetch 88 10 = some (.iload_n 2, 0, 0, 0) := rfl
theorem f88_11 : fetch 88 11 = some (.imul, 0, 0, 0) := rfl
theorem f88_12 : fetch 88 12 = some (.isub, 0, 0, 0) := rfl
theorem f88_13 : fetch 88 13 = some (.lushr, 0, 0, 0) := rfl
theorem f88_14 : fetch 88 14 = some (.l2i, 0, 0, 0) := rfl
theorem f88_15 : fetch 88 15 = some (.i2s, 0, 0, 0) := rfl
theorem f88_16 : fetch 88 16 = some (.ireturn, 0, 0, 0) := rfl
set_option maxRecDepth 100000 in
set_option maxHeartbeats 4000000 in
theorem p88_ok (d : Nat) (h : HS) (w : WF h) (a0 : Int32) (a1 : Int32) (r : Int32) (hp : p88 h a0 a1 = some r) : ex (d + 0) 88 (ent 88 [.ref (33), .int (a0), .int (a1)] h) = some (some (.int (r)), h) := by
  rw [show ent 88 [.ref (33), .int (a0), .int (a1)] h = (0, [some (.ref (33)), some (.int (a0)), some (.int (a1))], [], h) from by  rfl]
  refine ex_weak (ls := [some (.ref (33)), some (.int (a0)), some (.int (a1))]) (le2_ok ⟨Or.inr rfl, Or.inr rfl, Or.inr rfl, trivial⟩) ?_
  unfold p88 at hp
  refine e_aload_n f88_0 rfl ?_
  refine e_getR f88_1 (WF.t w 33 (by decide)) rfl (WF.r (q := 38) w 33 6 (by decide)) ?_
  refine e_iload_n f88_4 rfl ?_
  by_cases hg1 : (a0) < (0 : Int32) ∨ 200 ≤ (a0).toNatClampNeg
  · rw [if_pos hg1] at hp; cases hp
  rw [if_neg hg1] at hp
  refine e_laload f88_5 (WF.t w 38 (by decide)) (WF.n w 38 (by decide)) hg1 ?_
  refine e_bipush (v := 48) f88_6 (by decide) ?_
  refine e_bipush (v := 16) f88_8 (by decide) ?_
  refine e_iload_n f88_10 rfl ?_
  refine e_imul f88_11 ?_
  refine e_isub f88_12 ?_
  refine e_lushr f88_13 ?_
  refine e_l2i f88_14 ?_
  refine e_i2s f88_15 ?_
  have hp := Option.some.inj hp
  subst hp
  exact e_ireturn f88_16 (Or.inl rfl)
theorem f91_0 : fetch 91 0 = some (.iload_n 0, 0, 0, 0) := rfl
theorem f91_1 : fetch 91 1 = some (.ifCond .eq 20, 21, 0, 0) := rfl
theorem f91_4 : fetch 91 4 = some (.iload_n 0, 0, 0, 0) := rfl
theorem f91_5 : fetch 91 5 = some (.sipush (-32768), 0, 0, 0) := rfl
theorem f91_8 : fetch 91 8 = some (.if_icmp .eq 13, 21, 0, 0) := rfl
theorem f91_11 : fetch 91 11 = some (.iload_n 0, 0, 0, 0) := rfl
theorem f91_12 : fetch 91 12 = some (.iload_n 1, 0, 0, 0) := rfl
theorem f91_13 : fetch 91 13 = some (.ineg, 0, 0, 0) := rfl
theorem f91_14 : fetch 91 14 = some (.if_icmp .ne 7, 21, 0, 0) := rfl
theorem f91_17 : fetch 91 17 = some (.iconst 1, 0, 0, 0) := rfl
theorem f91_18 : fetch 91 18 = some (.goto 4, 22, 0, 0) := rfl
theorem f91_21 : fetch 91 21 = some (.iconst 0, 0, 0, 0) := rfl
theorem f91_22 : fetch 91 22 = some (.ireturn, 0, 0, 1) := rfl
set_option maxRecDepth 100000 in
set_option maxHeartbeats 4000000 in
theorem p91_ok (d : Nat) (h : HS) (w : WF h) (a0 : Int32) (a1 : Int32) (r : Int32) (hp : p91 h a0 a1 = some r) : ex (d + 0) 91 (ent 91 [.int (a0), .int (a1)] h) = some (some (.int (r)), h) := by
  rw [show ent 91 [.int (a0), .int (a1)] h = (0, [some (.int (a0)), some (.int (a1))], [], h) from by  rfl]
  refine ex_weak (ls := [some (.int (a0)), some (.int (a1))]) (le2_ok ⟨Or.inr rfl, Or.inr rfl, trivial⟩) ?_
  unfold p91 at hp
  refine e_iload_n f91_0 rfl ?_
  by_cases hc1 : (a0) = (0 : Int32)
  · rw [if_pos hc1] at hp
    refine e_if_eq_t f91_1 hc1 ?_
    refine e_iconst (v := 0) f91_21 (by decide) ?_
    have hp := Option.some.inj hp
    subst hp
    exact e_ireturn f91_22 (by decide)
  · rw [if_neg hc1] at hp
    refine e_if_eq_f f91_1 hc1 ?_
    refine e_iload_n f91_4 rfl ?_
    refine e_sipush (v := -32768) f91_5 (by decide) ?_
    by_cases hc2 : (a0) = (((-32768)) : Int32)
    · rw [if_pos hc2] at hp
      refine e_icmp_eq_t f91_8 hc2 ?_
      refine e_iconst (v := 0) f91_21 (by decide) ?_
      have hp := Option.some.inj hp
      subst hp
      exact e_ireturn f91_22 (by decide)
    · rw [if_neg hc2] at hp
      refine e_icmp_eq_f f91_8 hc2 ?_
      refine e_iload_n f91_11 rfl ?_
      refine e_iload_n f91_12 rfl ?_
      refine e_ineg f91_13 ?_
      by_cases hc3 : (a0) = ((-(a1)) : Int32)
      · rw [if_pos hc3] at hp
        refine e_icmp_ne_f f91_14 hc3 ?_
        refine e_iconst (v := 1) f91_17 (by decide) ?_
        refine e_goto f91_18 ?_
        have hp := Option.some.inj hp
        subst hp
        exact e_ireturn f91_22 (by decide)
      · rw [if_neg hc3] at hp
        refine e_icmp_ne_t f91_14 hc3 ?_
        refine e_iconst (v := 0) f91_21 (by decide) ?_
        have hp := Option.some.inj hp
        subst hp
        exact e_ireturn f91_22 (by decide)
theorem f89_0 : fetch 89 0 = some (.aload_n 0, 0, 0, 0) := rfl
theorem f89_1 : fetch 89 1 = some (.getfield 18, 8, 4, 2) := rfl
theorem f89_4 : fetch 89 4 = some (.iload_n 1, 0, 0, 0) := rfl
theorem f89_5 : fetch 89 5 = some (.iaload, 0, 0, 0) := rfl
theorem f89_6 : fetch 89 6 = some (.aload_n 0, 0, 0, 0) := rfl
theorem f89_7 : fetch 89 7 = some (.getfield 18, 8, 4, 2) := rfl
theorem f89_10 : fetch 89 10 = some (.iload_n 2, 0, 0, 0) := rfl
theorem f89_11 : fetch 89 11 = some (.iaload, 0, 0, 0) := rfl
theorem f89_12 : fetch 89 12 = some (.if_icmp .ne 25, 37, 0, 0) := rfl
theorem f89_15 : fetch 89 15 = some (.aload_n 0, 0, 0, 0) := rfl
theorem f89_16 : fetch 89 16 = some (.iload_n 1, 0, 0, 0) := rfl
theorem f89_17 : fetch 89 17 = some (.iconst 1, 0, 0, 0) := rfl
theorem f89_18 : fetch 89 18 = some (.invokevirtual 43, 88, 2, 0) := rfl
theorem f89_21 : fetch 89 21 = some (.aload_n 0, 0, 0, 0) := rfl
theorem f89_22 : fetch 89 22 = some (.iload_n 2, 0, 0, 0) := rfl
theorem f89_23 : fetch 89 23 = some (.iconst 3, 0, 0, 0) := rfl
theorem f89_24 : fetch 89 24 = some (.invokevirtual 43, 88, 2, 0) := rfl
theorem f89_27 : fetch 89 27 = some (.invokestatic 47, 91, 2, 1) := rfl
theorem f89_30 : fetch 89 30 = some (.ifCond .eq 7, 37, 0, 0) := rfl
theorem f89_33 : fetch 89 33 = some (.iconst 1, 0, 0, 0) := rfl
theorem f89_34 : fetch 89 34 = some (.goto 4, 38, 0, 0) := rfl
theorem f89_37 : fetch 89 37 = some (.iconst 0, 0, 0, 0) := rfl
theorem f89_38 : fetch 89 38 = some (.ireturn, 0, 0, 1) := rfl
set_option maxRecDepth 100000 in
set_option maxHeartbeats 4000000 in
theorem p89_ok (d : Nat) (h : HS) (w : WF h) (a0 : Int32) (a1 : Int32) (r : Int32) (hp : p89 h a0 a1 = some r) : ex (d + 1) 89 (ent 89 [.ref (33), .int (a0), .int (a1)] h) = some (some (.int (r)), h) := by
  rw [show ent 89 [.ref (33), .int (a0), .int (a1)] h = (0, [some (.ref (33)), some (.int (a0)), some (.int (a1))], [], h) from by  rfl]
  refine ex_weak (ls := [some (.ref (33)), some (.int (a0)), some (.int (a1))]) (le2_ok ⟨Or.inr rfl, Or.inr rfl, Or.inr rfl, trivial⟩) ?_
  unfold p89 at hp
  refine e_aload_n f89_0 rfl ?_
  refine e_getR f89_1 (WF.t w 33 (by decide)) rfl (WF.r (q := 36) w 33 4 (by decide)) ?_
  refine e_iload_n f89_4 rfl ?_
  by_cases hg1 : (a0) < (0 : Int32) ∨ 200 ≤ (a0).toNatClampNeg
  · rw [if_pos hg1] at hp; cases hp
  rw [if_neg hg1] at hp
  refine e_iaload f89_5 (Or.inl (WF.t w 36 (by decide))) (WF.n w 36 (by decide)) hg1 ?_
  refine e_aload_n f89_6 rfl ?_
  refine e_getR f89_7 (WF.t w 33 (by decide)) rfl (WF.r (q := 36) w 33 4 (by decide)) ?_
  refine e_iload_n f89_10 rfl ?_
  by_cases hg2 : (a1) < (0 : Int32) ∨ 200 ≤ (a1).toNatClampNeg
  · rw [if_pos hg2] at hp; cases hp
  rw [if_neg hg2] at hp
  refine e_iaload f89_11 (Or.inl (WF.t w 36 (by decide))) (WF.n w 36 (by decide)) hg2 ?_
  by_cases hc3 : (hI (h) (36) (a0).toNatClampNeg) = ((hI (h) (36) (a1).toNatClampNeg) : Int32)
  · rw [if_pos hc3] at hp
    refine e_icmp_ne_f f89_12 hc3 ?_
    refine e_aload_n f89_15 rfl ?_
    refine e_iload_n f89_16 rfl ?_
    refine e_iconst (v := 1) f89_17 (by decide) ?_
    obtain ⟨r4, hr5, hp⟩ := bind_some hp
    try dsimp only at hp
    refine e_callV (st := []) (o := 33) (as := [.int (a0), .int (1)]) f89_18 (by decide) rfl rfl (Nat.le_of_ble_eq_true rfl) (WF.t w 33 (by decide)) (Nat.le_of_ble_eq_true rfl) (p88_ok d (h) w (a0) (1) r4 hr5) ?_
    show ex _ 89 (21, [some (.ref (33)), some (.int (a0)), some (.int (a1))], [.int (r4)], h) = _
    refine e_aload_n f89_21 rfl ?_
    refine e_iload_n f89_22 rfl ?_
    refine e_iconst (v := 3) f89_23 (by decide) ?_
    obtain ⟨r6, hr7, hp⟩ := bind_some hp
    try dsimp only at hp
    refine e_callV (st := [.int (r4)]) (o := 33) (as := [.int (a1), .int (3)]) f89_24 (by decide) rfl rfl (Nat.le_of_ble_eq_true rfl) (WF.t w 33 (by decide)) (Nat.le_of_ble_eq_true rfl) (p88_ok d (h) w (a1) (3) r6 hr7) ?_
    show ex _ 89 (27, [some (.ref (33)), some (.int (a0)), some (.int (a1))], [.int (r6), .int (r4)], h) = _
    obtain ⟨r8, hr9, hp⟩ := bind_some hp
    try dsimp only at hp
    refine e_callS (st := []) (as := [.int (r4), .int (r6)]) f89_27 (by decide) rfl rfl (Nat.le_of_ble_eq_true rfl) (Nat.le_of_ble_eq_true rfl) (p91_ok d (h) w (r4) (r6) r8 hr9) ?_
    show ex _ 89 (30, [some (.ref (33)), some (.int (a0)), some (.int (a1))], [.int (r8)], h) = _
    by_cases hc10 : (r8) = (0 : Int32)
    · rw [if_pos hc10] at hp
      refine e_if_eq_t f89_30 hc10 ?_
      refine e_iconst (v := 0) f89_37 (by decide) ?_
      have hp := Option.some.inj hp
      subst hp
      exact e_ireturn f89_38 (by decide)
    · rw [if_neg hc10] at hp
      refine e_if_eq_f f89_30 hc10 ?_
      refine e_iconst (v := 1) f89_33 (by decide) ?_
      refine e_goto f89_34 ?_
      have hp := Option.some.inj hp
      subst hp
      exact e_ireturn f89_38 (by decide)
  · rw [if_neg hc3] at hp
    refine e_icmp_ne_t f89_12 hc3 ?_
    refine e_iconst (v := 0) f89_37 (by decide) ?_
    have hp := Option.some.inj hp
    subst hp
    exact e_ireturn f89_38 (by decide)
theorem f90_0 : fetch 90 0 = some (.aload_n 0, 0, 0, 0) := rfl
theorem f90_1 : fetch 90 1 = some (.getfield 18, 8, 4, 2) := rfl
theorem f90_4 : fetch 90 4 = some (.iload_n 1, 0, 0, 0) := rfl
theorem f90_5 : fetch 90 5 = some (.iaload, 0, 0, 0) := rfl
theorem f90_6 : fetch 90 6 = some (.aload_n 0, 0, 0, 0) := rfl
theorem f90_7 : fetch 90 7 = some (.getfield 18, 8, 4, 2) := rfl
theorem f90_10 : fetch 90 10 = some (.iload_n 2, 0, 0, 0) := rfl
theorem f90_11 : fetch 90 11 = some (.iaload, 0, 0, 0) := rfl
theorem f90_12 : fetch 90 12 = some (.if_icmp .ne 25, 37, 0, 0) := rfl
theorem f90_15 : fetch 90 15 = some (.aload_n 0, 0, 0, 0) := rfl
theorem f90_16 : fetch 90 16 = some (.iload_n 1, 0, 0, 0) := rfl
theorem f90_17 : fetch 90 17 = some (.iconst 2, 0, 0, 0) := rfl
theorem f90_18 : fetch 90 18 = some (.invokevirtual 43, 88, 2, 0) := rfl
theorem f90_21 : fetch 90 21 = some (.aload_n 0, 0, 0, 0) := rfl
theorem f90_22 : fetch 90 22 = some (.iload_n 2, 0, 0, 0) := rfl
theorem f90_23 : fetch 90 23 = some (.iconst 0, 0, 0, 0) := rfl
theorem f90_24 : fetch 90 24 = some (.invokevirtual 43, 88, 2, 0) := rfl
theorem f90_27 : fetch 90 27 = some (.invokestatic 47, 91, 2, 1) := rfl
theorem f90_30 : fetch 90 30 = some (.ifCond .eq 7, 37, 0, 0) := rfl
theorem f90_33 : fetch 90 33 = some (.iconst 1, 0, 0, 0) := rfl
theorem f90_34 : fetch 90 34 = some (.goto 4, 38, 0, 0) := rfl
theorem f90_37 : fetch 90 37 = some (.iconst 0, 0, 0, 0) := rfl
theorem f90_38 : fetch 90 38 = some (.ireturn, 0, 0, 1) := rfl
set_option maxRecDepth 100000 in
set_option maxHeartbeats 4000000 in
theorem p90_ok (d : Nat) (h : HS) (w : WF h) (a0 : Int32) (a1 : Int32) (r : Int32) (hp : p90 h a0 a1 = some r) : ex (d + 1) 90 (ent 90 [.ref (33), .int (a0), .int (a1)] h) = some (some (.int (r)), h) := by
  rw [show ent 90 [.ref (33), .int (a0), .int (a1)] h = (0, [some (.ref (33)), some (.int (a0)), some (.int (a1))], [], h) from by  rfl]
  refine ex_weak (ls := [some (.ref (33)), some (.int (a0)), some (.int (a1))]) (le2_ok ⟨Or.inr rfl, Or.inr rfl, Or.inr rfl, trivial⟩) ?_
  unfold p90 at hp
  refine e_aload_n f90_0 rfl ?_
  refine e_getR f90_1 (WF.t w 33 (by decide)) rfl (WF.r (q := 36) w 33 4 (by decide)) ?_
  refine e_iload_n f90_4 rfl ?_
  by_cases hg1 : (a0) < (0 : Int32) ∨ 200 ≤ (a0).toNatClampNeg
  · rw [if_pos hg1] at hp; cases hp
  rw [if_neg hg1] at hp
  refine e_iaload f90_5 (Or.inl (WF.t w 36 (by decide))) (WF.n w 36 (by decide)) hg1 ?_
  refine e_aload_n f90_6 rfl ?_
  refine e_getR f90_7 (WF.t w 33 (by decide)) rfl (WF.r (q := 36) w 33 4 (by decide)) ?_
  refine e_iload_n f90_10 rfl ?_
  by_cases hg2 : (a1) < (0 : Int32) ∨ 200 ≤ (a1).toNatClampNeg
  · rw [if_pos hg2] at hp; cases hp
  rw [if_neg hg2] at hp
  refine e_iaload f90_11 (Or.inl (WF.t w 36 (by decide))) (WF.n w 36 (by decide)) hg2 ?_
  by_cases hc3 : (hI (h) (36) (a0).toNatClampNeg) = ((hI (h) (36) (a1).toNatClampNeg) : Int32)
  · rw [if_pos hc3] at hp
    refine e_icmp_ne_f f90_12 hc3 ?_
    refine e_aload_n f90_15 rfl ?_
    refine e_iload_n f90_16 rfl ?_
    refine e_iconst (v := 2) f90_17 (by decide) ?_
    obtain ⟨r4, hr5, hp⟩ := bind_some hp
    try dsimp only at hp
    refine e_callV (st := []) (o := 33) (as := [.int (a0), .int (2)]) f90_18 (by decide) rfl rfl (Nat.le_of_ble_eq_true rfl) (WF.t w 33 (by decide)) (Nat.le_of_ble_eq_true rfl) (p88_ok d (h) w (a0) (2) r4 hr5) ?_
    show ex _ 90 (21, [some (.ref (33)), some (.int (a0)), some (.int (a1))], [.int (r4)], h) = _
    refine e_aload_n f90_21 rfl ?_
    refine e_iload_n f90_22 rfl ?_
    refine e_iconst (v := 0) f90_23 (by decide) ?_
    obtain ⟨r6, hr7, hp⟩ := bind_some hp
    try dsimp only at hp
    refine e_callV (st := [.int (r4)]) (o := 33) (as := [.int (a1), .int (0)]) f90_24 (by decide) rfl rfl (Nat.le_of_ble_eq_true rfl) (WF.t w 33 (by decide)) (Nat.le_of_ble_eq_true rfl) (p88_ok d (h) w (a1) (0) r6 hr7) ?_
    show ex _ 90 (27, [some (.ref (33)), some (.int (a0)), some (.int (a1))], [.int (r6), .int (r4)], h) = _
    obtain ⟨r8, hr9, hp⟩ := bind_some hp
    try dsimp only at hp
    refine e_callS (st := []) (as := [.int (r4), .int (r6)]) f90_27 (by decide) rfl rfl (Nat.le_of_ble_eq_true rfl) (Nat.le_of_ble_eq_true rfl) (p91_ok d (h) w (r4) (r6) r8 hr9) ?_
    show ex _ 90 (30, [some (.ref (33)), some (.int (a0)), some (.int (a1))], [.int (r8)], h) = _
    by_cases hc10 : (r8) = (0 : Int32)
    · rw [if_pos hc10] at hp
      refine e_if_eq_t f90_30 hc10 ?_
      refine e_iconst (v := 0) f90_37 (by decide) ?_
      have hp := Option.some.inj hp
      subst hp
      exact e_ireturn f90_38 (by decide)
    · rw [if_neg hc10] at hp
      refine e_if_eq_f f90_30 hc10 ?_
      refine e_iconst (v := 1) f90_33 (by decide) ?_
      refine e_goto f90_34 ?_
      have hp := Option.some.inj hp
      subst hp
      exact e_ireturn f90_38 (by decide)
  · rw [if_neg hc3] at hp
    refine e_icmp_ne_t f90_12 hc3 ?_
    refine e_iconst (v := 0) f90_37 (by decide) ?_
    have hp := Option.some.inj hp
    subst hp
    exact e_ireturn f90_38 (by decide)
theorem f47_0 : fetch 47 0 = some (.iconst 0, 0, 0, 0) := rfl
theorem f47_1 : fetch 47 1 = some (.istore_n 1, 0, 0, 0) := rfl
theorem f47_2 : fetch 47 2 = some (.iconst 0, 0, 0, 0) := rfl
theorem f47_3 : fetch 47 3 = some (.istore_n 2, 0, 0, 0) := rfl
theorem f47_4 : fetch 47 4 = some (.iconst 0, 0, 0, 0) := rfl
theorem f47_5 : fetch 47 5 = some (.istore_n 3, 0, 0, 0) := rfl
theorem f47_6 : fetch 47 6 = some (.iload_n 3, 0, 0, 0) := rfl
theorem f47_7 : fetch 47 7 = some (.aload_n 0, 0, 0, 0) := rfl
theorem f47_8 : fetch 47 8 = some (.getfield 61, 3, 1, 0) := rfl
theorem f47_11 : fetch 47 11 = some (.if_icmp .ge 143, 154, 0, 0) := rfl
theorem f47_14 : fetch 47 14 = some (.aload_n 0, 0, 0, 0) := rfl
theorem f47_15 : fetch 47 15 = some (.getfield 15, 3, 6, 2) := rfl
theorem f47_18 : fetch 47 18 = some (.iload_n 3, 0, 0, 0) := rfl
theorem f47_19 : fetch 47 19 = some (.iconst 0, 0, 0, 0) := rfl
theorem f47_20 : fetch 47 20 = some (.iastore, 0, 0, 0) := rfl
theorem f47_21 : fetch 47 21 = some (.aload_n 0, 0, 0, 0) := rfl
theorem f47_22 : fetch 47 22 = some (.getfield 18, 3, 7, 2) := rfl
theorem f47_25 : fetch 47 25 = some (.iload_n 3, 0, 0, 0) := rfl
theorem f47_26 : fetch 47 26 = some (.iconst 0, 0, 0, 0) := rfl
theorem f47_27 : fetch 47 27 = some (.iastore, 0, 0, 0) := rfl
theorem f47_28 : fetch 47 28 = some (.iconst 0, 0, 0, 0) := rfl
theorem f47_29 : fetch 47 29 = some (.istore 4, 0, 0, 0) := rfl
theorem f47_31 : fetch 47 31 = some (.iload 4, 0, 0, 0) := rfl
theorem f47_33 : fetch 47 33 = some (.aload_n 0, 0, 0, 0) := rfl
theorem f47_34 : fetch 47 34 = some (.getfield 61, 3, 1, 0) := rfl
theorem f47_37 : fetch 47 37 = some (.if_icmp .ge 93, 130, 0, 0) := rfl
theorem f47_40 : fetch 47 40 = some (.iload_n 3, 0, 0, 0) := rfl
theorem f47_41 : fetch 47 41 = some (.iload 4, 0, 0, 0) := rfl
theorem f47_43 : fetch 47 43 = some (.if_icmp .eq 39, 82, 0, 0) := rfl
theorem f47_46 : fetch 47 46 = some (.aload_n 0, 0, 0, 0) := rfl
theorem f47_47 : fetch 47 47 = some (.getfield 39, 3, 0, 2) := rfl
theorem f47_50 : fetch 47 50 = some (.aload_n 0, 0, 0, 0) := rfl
theorem f47_51 : fetch 47 51 = some (.getfield 9, 3, 5, 2) := rfl
theorem f47_54 : fetch 47 54 = some (.iload_n 3, 0, 0, 0) := rfl
theorem f47_55 : fetch 47 55 = some (.iaload, 0, 0, 0) := rfl
theorem f47_56 : fetch 47 56 = some (.aload_n 0, 0, 0, 0) := rfl
theorem f47_57 : fetch 47 57 = some (.getfield 9, 3, 5, 2) := rfl
theorem f47_60 : fetch 47 60 = some (.iload 4, 0, 0, 0) := rfl
theorem f47_62 : fetch 47 62 = some (.iaload, 0, 0, 0) := rfl
theorem f47_63 : fetch 47 63 = some (.invokevirtual 94, 89, 2, 0) := rfl
theorem f47_66 : fetch 47 66 = some (.ifCond .eq 16, 82, 0, 0) := rfl
theorem f47_69 : fetch 47 69 = some (.aload_n 0, 0, 0, 0) := rfl
theorem f47_70 : fetch 47 70 = some (.getfield 15, 3, 6, 2) := rfl
theorem f47_73 : fetch 47 73 = some (.iload_n 3, 0, 0, 0) := rfl
theorem f47_74 : fetch 47 74 = some (.dup2, 0, 0, 0) := rfl
theorem f47_75 : fetch 47 75 = some (.iaload, 0, 0, 0) := rfl
theorem f47_76 : fetch 47 76 = some (.iconst 1, 0, 0, 0) := rfl
theorem f47_77 : fetch 47 77 = some (.iload 4, 0, 0, 0) := rfl
theorem f47_79 : fetch 47 79 = some (.ishl, 0, 0, 0) := rfl
theorem f47_80 : fetch 47 80 = some (.ior, 0, 0, 0) := rfl
theorem f47_81 : fetch 47 81 = some (.iastore, 0, 0, 0) := rfl
theorem f47_82 : fetch 47 82 = some (.iload_n 3, 0, 0, 0) := rfl
theorem f47_83 : fetch 47 83 = some (.iload 4, 0, 0, 0) := rfl
theorem f47_85 : fetch 47 85 = some (.if_icmp .eq 39, 124, 0, 0) := rfl
theorem f47_88 : fetch 47 88 = some (.aload_n 0, 0, 0, 0) := rfl
theorem f47_89 : fetch 47 89 = some (.getfield 39, 3, 0, 2) := rfl
theorem f47_92 : fetch 47 92 = some (.aload_n 0, 0, 0, 0) := rfl
theorem f47_93 : fetch 47 93 = some (.getfield 9, 3, 5, 2) := rfl
theorem f47_96 : fetch 47 96 = some (.iload_n 3, 0, 0, 0) := rfl
theorem f47_97 : fetch 47 97 = some (.iaload, 0, 0, 0) := rfl
theorem f47_98 : fetch 47 98 = some (.aload_n 0, 0, 0, 0) := rfl
theorem f47_99 : fetch 47 99 = some (.getfield 9, 3, 5, 2) := rfl
theorem f47_102 : fetch 47 102 = some (.iload 4, 0, 0, 0) := rfl
theorem f47_104 : fetch 47 104 = some (.iaload, 0, 0, 0) := rfl
theorem f47_105 : fetch 47 105 = some (.invokevirtual 97, 90, 2, 0) := rfl
theorem f47_108 : fetch 47 108 = some (.ifCond .eq 16, 124, 0, 0) := rfl
theorem f47_111 : fetch 47 111 = some (.aload_n 0, 0, 0, 0) := rfl
theorem f47_112 : fetch 47 112 = some (.getfield 18, 3, 7, 2) := rfl
theorem f47_115 : fetch 47 115 = some (.iload_n 3, 0, 0, 0) := rfl
theorem f47_116 : fetch 47 116 = some (.dup2, 0, 0, 0) := rfl
theorem f47_117 : fetch 47 117 = some (.iaload, 0, 0, 0) := rfl
theorem f47_118 : fetch 47 118 = some (.iconst 1, 0, 0, 0) := rfl
theorem f47_119 : fetch 47 119 = some (.iload 4, 0, 0, 0) := rfl
theorem f47_121 : fetch 47 121 = some (.ishl, 0, 0, 0) := rfl
theorem f47_122 : fetch 47 122 = some (.ior, 0, 0, 0) := rfl
theorem f47_123 : fetch 47 123 = some (.iastore, 0, 0, 0) := rfl
theorem f47_124 : fetch 47 124 = some (.iinc 4 1, 0, 0, 0) := rfl
theorem f47_127 : fetch 47 127 = some (.goto (-96), 31, 0, 0) := rfl
theorem f47_130 : fetch 47 130 = some (.iload_n 1, 0, 0, 0) := rfl
theorem f47_131 : fetch 47 131 = some (.aload_n 0, 0, 0, 0) := rfl
theorem f47_132 : fetch 47 132 = some (.getfield 15, 3, 6, 2) := rfl
theorem f47_135 : fetch 47 135 = some (.iload_n 3, 0, 0, 0) := rfl
theorem f47_136 : fetch 47 136 = some (.iaload, 0, 0, 0) := rfl
theorem f47_137 : fetch 47 137 = some (.ior, 0, 0, 0) := rfl
theorem f47_138 : fetch 47 138 = some (.istore_n 1, 0, 0, 0) := rfl
theorem f47_139 : fetch 47 139 = some (.iload_n 2, 0, 0, 0) := rfl
theorem f47_140 : fetch 47 140 = some (.aload_n 0, 0, 0, 0) := rfl
theorem f47_141 : fetch 47 141 = some (.getfield 18, 3, 7, 2) := rfl
theorem f47_144 : fetch 47 144 = some (.iload_n 3, 0, 0, 0) := rfl
theorem f47_145 : fetch 47 145 = some (.iaload, 0, 0, 0) := rfl
theorem f47_146 : fetch 47 146 = some (.ior, 0, 0, 0) := rfl
theorem f47_147 : fetch 47 147 = some (.istore_n 2, 0, 0, 0) := rfl
theorem f47_148 : fetch 47 148 = some (.iinc 3 1, 0, 0, 0) := rfl
theorem f47_151 : fetch 47 151 = some (.goto (-145), 6, 0, 0) := rfl
theorem f47_154 : fetch 47 154 = some (.aload_n 0, 0, 0, 0) := rfl
theorem f47_155 : fetch 47 155 = some (.getfield 24, 3, 9, 2) := rfl
theorem f47_158 : fetch 47 158 = some (.aload_n 0, 0, 0, 0) := rfl
theorem f47_159 : fetch 47 159 = some (.getfield 61, 3, 1, 0) := rfl
theorem f47_162 : fetch 47 162 = some (.iconst 0, 0, 0, 0) := rfl
theorem f47_163 : fetch 47 163 = some (.iastore, 0, 0, 0) := rfl
theorem f47_164 : fetch 47 164 = some (.aload_n 0, 0, 0, 0) := rfl
theorem f47_165 : fetch 47 165 = some (.getfield 61, 3, 1, 0) := rfl
theorem f47_168 : fetch 47 168 = some (.iconst 1, 0, 0, 0) := rfl
theorem f47_169 : fetch 47 169 = some (.isub, 0, 0, 0) := rfl
theorem f47_170 : fetch 47 170 = some (.istore_n 3, 0, 0, 0) := rfl
theorem f47_171 : fetch 47 171 = some (.iload_n 3, 0, 0, 0) := rfl
theorem f47_172 : fetch 47 172 = some (.ifCond .lt 69, 241, 0, 0) := rfl
theorem f47_175 : fetch 47 175 = some (.aload_n 0, 0, 0, 0) := rfl
theorem f47_176 : fetch 47 176 = some (.getfield 21, 3, 8, 2) := rfl
theorem f47_179 : fetch 47 179 = some (.iload_n 3, 0, 0, 0) := rfl
theorem f47_180 : fetch 47 180 = some (.iload_n 1, 0, 0, 0) := rfl
theorem f47_181 : fetch 47 181 = some (.iload_n 3, 0, 0, 0) := rfl
theorem f47_182 : fetch 47 182 = some (.ishr, 0, 0, 0) := rfl
theorem f47_183 : fetch 47 183 = some (.iconst 1, 0, 0, 0) := rfl
theorem f47_184 : fetch 47 184 = some (.iand, 0, 0, 0) := rfl
theorem f47_185 : fetch 47 185 = some (.iload_n 2, 0, 0, 0) := rfl
theorem f47_186 : fetch 47 186 = some (.iload_n 3, 0, 0, 0) := rfl
theorem f47_187 : fetch 47 187 = some (.ishr, 0, 0, 0) := rfl
theorem f47_188 : fetch 47 188 = some (.iconst 1, 0, 0, 0) := rfl
theorem f47_189 : fetch 47 189 = some (.iand, 0, 0, 0) := rfl
theorem f47_190 : fetch 47 190 = some (.iadd, 0, 0, 0) := rfl
theorem f47_191 : fetch 47 191 = some (.iastore, 0, 0, 0) := rfl
theorem f47_192 : fetch 47 192 = some (.aload_n 0, 0, 0, 0) := rfl
theorem f47_193 : fetch 47 193 = some (.getfield 24, 3, 9, 2) := rfl
theorem f47_196 : fetch 47 196 = some (.iload_n 3, 0, 0, 0) := rfl
theorem f47_197 : fetch 47 197 = some (.aload_n 0, 0, 0, 0) := rfl
theorem f47_198 : fetch 47 198 = some (.getfield 24, 3, 9, 2) := rfl
theorem f47_201 : fetch 47 201 = some (.iload_n 3, 0, 0, 0) := rfl
theorem f47_202 : fetch 47 202 = some (.iconst 1, 0, 0, 0) := rfl
theorem f47_203 : fetch 47 203 = some (.iadd, 0, 0, 0) := rfl
theorem f47_204 : fetch 47 204 = some (.iaload, 0, 0, 0) := rfl
theorem f47_205 : fetch 47 205 = some (.iload_n 3, 0, 0, 0) := rfl
theorem f47_206 : fetch 47 206 = some (.aload_n 0, 0, 0, 0) := rfl
theorem f47_207 : fetch 47 207 = some (.getfield 65, 3, 2, 0) := rfl
theorem f47_210 : fetch 47 210 = some (.irem, 0, 0, 0) := rfl
theorem f47_211 : fetch 47 211 = some (.ifCond .le 7, 218, 0, 0) := rfl
theorem f47_214 : fetch 47 214 = some (.iconst 1, 0, 0, 0) := rfl
theorem f47_215 : fetch 47 215 = some (.goto 4, 219, 0, 0) := rfl
theorem f47_218 : fetch 47 218 = some (.iconst 0, 0, 0, 0) := rfl
theorem f47_219 : fetch 47 219 = some (.iadd, 0, 0, 0) := rfl
theorem f47_220 : fetch 47 220 = some (.iload_n 3, 0, 0, 0) := rfl
theorem f47_221 : fetch 47 221 = some (.aload_n 0, 0, 0, 0) := rfl
theorem f47_222 : fetch 47 222 = some (.getfield 65, 3, 2, 0) := rfl
theorem f47_225 : fetch 47 225 = some (.if_icmp .lt 7, 232, 0, 0) := rfl
theorem f47_228 : fetch 47 228 = some (.iconst 1, 0, 0, 0) := rfl
theorem f47_229 : fetch 47 229 = some (.goto 4, 233, 0, 0) := rfl
theorem f47_232 : fetch 47 232 = some (.iconst 0, 0, 0, 0) := rfl
theorem f47_233 : fetch 47 233 = some (.iadd, 0, 0, 0) := rfl
theorem f47_234 : fetch 47 234 = some (.iastore, 0, 0, 0) := rfl
theorem f47_235 : fetch 47 235 = some (.iinc 3 (-1), 0, 0, 0) := rfl
theorem f47_238 : fetch 47 238 = some (.goto (-67), 171, 0, 0) := rfl
theorem f47_241 : fetch 47 241 = some (.return_, 0, 0, 0) := rfl
set_option maxRecDepth 100000 in
set_option maxHeartbeats 4000000 in
theorem p47_j124_ok (d : Nat) (F : Nat) (K6 : HS → Int32 → Int32 → Int32 → Option (HS)) (K31 : HS → Int32 → Int32 → Int32 → Int32 → Option (HS)) (hK6 : ∀ (h : HS) (w : WF h) (u1 : Int32) (u2 : Int32) (u3 : Int32) (r : HS), K6 h u1 u2 u3 = some r → ex (d + 2) 47 (6, [some (.ref (39)), some (.int (u1)), some (.int (u2)), some (.int (u3)), none], [], h) = some (none, r)) (hK31 : ∀ (h : HS) (w : WF h) (u1 : Int32) (u2 : Int32) (u3 : Int32) (u4 : Int32) (r : HS), K31 h u1 u2 u3 u4 = some r → ex (d + 2) 47 (31, [some (.ref (39)), some (.int (u1)), some (.int (u2)), some (.int (u3)), some (.int (u4))], [], h) = some (none, r)) (h : HS) (w : WF h) (v1 : Int32) (v2 : Int32) (v3 : Int32) (v4 : Int32) (r : HS) (hp : p47_j124 F K6 K31 h v1 v2 v3 v4 = some r) : ex (d + 2) 47 (124, [some (.ref (39)), some (.int (v1)), some (.int (v2)), some (.int (v3)), some (.int (v4))], [], h) = some (none, r) := by
  unfold p47_j124 at hp
  refine e_iinc (ls2 := [some (.ref (39)), some (.int (v1)), some (.int (v2)), some (.int (v3)), some (.int ((v4) + 1))]) f47_124 (by decide) rfl rfl ?_
  refine e_goto f47_127 ?_
  refine ex_weak (ls := [some (.ref (39)), some (.int (v1)), some (.int (v2)), some (.int (v3)), some (.int ((v4) + 1))]) (le2_ok ⟨Or.inr rfl, Or.inr rfl, Or.inr rfl, Or.inr rfl, Or.inr rfl, trivial⟩) ?_
  exact hK31 (h) (w) (v1) (v2) (v3) ((v4) + 1) _ hp
set_option maxRecDepth 100000 in
set_option maxHeartbeats 4000000 in
theorem p47_j124_w (F : Nat) (K6 : HS → Int32 → Int32 → Int32 → Option (HS)) (K31 : HS → Int32 → Int32 → Int32 → Int32 → Option (HS)) (hK6 : ∀ (h : HS) (w : WF h) (u1 : Int32) (u2 : Int32) (u3 : Int32) (r : HS), K6 h u1 u2 u3 = some r → WF r) (hK31 : ∀ (h : HS) (w : WF h) (u1 : Int32) (u2 : Int32) (u3 : Int32) (u4 : Int32) (r : HS), K31 h u1 u2 u3 u4 = some r → WF r) (h : HS) (w : WF h) (v1 : Int32) (v2 : Int32) (v3 : Int32) (v4 : Int32) (r : HS) (hp : p47_j124 F K6 K31 h v1 v2 v3 v4 = some r) : WF r := by
  unfold p47_j124 at hp
  exact hK31 (h) (w) (v1) (v2) (v3) ((v4) + 1) _ hp
set_option maxRecDepth 100000 in
set_option maxHeartbeats 4000000 in
theorem p47_j233_ok (d : Nat) (F : Nat) (K171 : HS → Int32 → Int32 → Int32 → Option (HS)) (hK171 : ∀ (h : HS) (w : WF h) (u1 : Int32) (u2 : Int32) (u3 : Int32) (r : HS), K171 h u1 u2 u3 = some r → ex (d + 2) 47 (171, [some (.ref (39)), some (.int (u1)), some (.int (u2)), some (.int (u3)), none], [], h) = some (none, r)) (h : HS) (w : WF h) (v1 : Int32) (v2 : Int32) (v3 : Int32) (s0 : Int32) (s1 : Int32) (s2 : Int32) (r : HS) (hp : p47_j233 F K171 h v1 v2 v3 s0 s1 s2 = some r) : ex (d + 2) 47 (233, [some (.ref (39)), some (.int (v1)), some (.int (v2)), some (.int (v3)), none], [.int (s0), .int (s1), .int (s2), .ref (44)], h) = some (none, r) := by
  unfold p47_j233 at hp
  refine e_iadd f47_233 ?_
  by_cases hg39 : (s2) < (0 : Int32) ∨ 9 ≤ (s2).toNatClampNeg
  · rw [if_pos hg39] at hp; cases hp
  rw [if_neg hg39] at hp
  refine e_iastore f47_234 (WF.t w 44 (by decide)) (WF.n w 44 (by decide)) hg39 ?_
  refine e_iinc (ls2 := [some (.ref (39)), some (.int (v1)), some (.int (v2)), some (.int ((v3) + (-1))), none]) f47_235 (by decide) rfl rfl ?_
  refine e_goto f47_238 ?_
  refine ex_weak (ls := [some (.ref (39)), some (.int (v1)), some (.int (v2)), some (.int ((v3) + (-1))), none]) (le2_ok ⟨Or.inr rfl, Or.inr rfl, Or.inr rfl, Or.inr rfl, Or.inl rfl, trivial⟩) ?_
  exact hK171 (hsI (h) (44) (s2).toNatClampNeg ((s1) + (s0))) (w) (v1) (v2) ((v3) + (-1)) _ hp
set_option maxRecDepth 100000 in
set_option maxHeartbeats 4000000 in
theorem p47_j233_w (F : Nat) (K171 : HS → Int32 → Int32 → Int32 → Option (HS)) (hK171 : ∀ (h : HS) (w : WF h) (u1 : Int32) (u2 : Int32) (u3 : Int32) (r : HS), K171 h u1 u2 u3 = some r → WF r) (h : HS) (w : WF h) (v1 : Int32) (v2 : Int32) (v3 : Int32) (s0 : Int32) (s1 : Int32) (s2 : Int32) (r : HS) (hp : p47_j233 F K171 h v1 v2 v3 s0 s1 s2 = some r) : WF r := by
  unfold p47_j233 at hp
  by_cases hg39 : (s2) < (0 : Int32) ∨ 9 ≤ (s2).toNatClampNeg
  · rw [if_pos hg39] at hp; cases hp
  rw [if_neg hg39] at hp
  exact hK171 (hsI (h) (44) (s2).toNatClampNeg ((s1) + (s0))) (w) (v1) (v2) ((v3) + (-1)) _ hp
set_option maxRecDepth 100000 in
set_option maxHeartbeats 4000000 in
theorem p47_j219_ok (d : Nat) (F : Nat) (K171 : HS → Int32 → Int32 → Int32 → Option (HS)) (hK171 : ∀ (h : HS) (w : WF h) (u1 : Int32) (u2 : Int32) (u3 : Int32) (r : HS), K171 h u1 u2 u3 = some r → ex (d + 2) 47 (171, [some (.ref (39)), some (.int (u1)), some (.int (u2)), some (.int (u3)), none], [], h) = some (none, r)) (h : HS) (w : WF h) (v1 : Int32) (v2 : Int32) (v3 : Int32) (s0 : Int32) (s1 : Int32) (s2 : Int32) (r : HS) (hp : p47_j219 F K171 h v1 v2 v3 s0 s1 s2 = some r) : ex (d + 2) 47 (219, [some (.ref (39)), some (.int (v1)), some (.int (v2)), some (.int (v3)), none], [.int (s0), .int (s1), .int (s2), .ref (44)], h) = some (none, r) := by
  unfold p47_j219 at hp
  refine e_iadd f47_219 ?_
  refine e_iload_n f47_220 rfl ?_
  refine e_aload_n f47_221 rfl ?_
  refine e_getI f47_222 (WF.t w 39 (by decide)) (by decide) ?_
  by_cases hc38 : (v3) < ((hI (h) (39) 2) : Int32)
  · rw [if_pos hc38] at hp
    refine e_icmp_lt_t f47_225 hc38 ?_
    refine e_iconst (v := 0) f47_232 (by decide) ?_
    refine ex_weak (ls := [some (.ref (39)), some (.int (v1)), some (.int (v2)), some (.int (v3)), none]) (le2_ok ⟨Or.inr rfl, Or.inr rfl, Or.inr rfl, Or.inr rfl, Or.inl rfl, trivial⟩) ?_
    exact p47_j233_ok d F (K171) (hK171) (h) (w) (v1) (v2) (v3) (0) ((s1) + (s0)) (s2) _ hp
  · rw [if_neg hc38] at hp
    refine e_icmp_lt_f f47_225 hc38 ?_
    refine e_iconst (v := 1) f47_228 (by decide) ?_
    refine e_goto f47_229 ?_
    refine ex_weak (ls := [some (.ref (39)), some (.int (v1)), some (.int (v2)), some (.int (v3)), none]) (le2_ok ⟨Or.inr rfl, Or.inr rfl, Or.inr rfl, Or.inr rfl, Or.inl rfl, trivial⟩) ?_
    exact p47_j233_ok d F (K171) (hK171) (h) (w) (v1) (v2) (v3) (1) ((s1) + (s0)) (s2) _ hp
set_option maxRecDepth 100000 in
set_option maxHeartbeats 4000000 in
theorem p47_j219_w (F : Nat) (K171 : HS → Int32 → Int32 → Int32 → Option (HS)) (hK171 : ∀ (h : HS) (w : WF h) (u1 : Int32) (u2 : Int32) (u3 : Int32) (r : HS), K171 h u1 u2 u3 = some r → WF r) (h : HS) (w : WF h) (v1 : Int32) (v2 : Int32) (v3 : Int32) (s0 : Int32) (s1 : Int32) (s2 : Int32) (r : HS) (hp : p47_j219 F K171 h v1 v2 v3 s0 s1 s2 = some r) : WF r := by
  unfold p47_j219 at hp
  by_cases hc38 : (v3) < ((hI (h) (39) 2) : Int32)
  · rw [if_pos hc38] at hp
    exact p47_j233_w F (K171) (hK171) (h) (w) (v1) (v2) (v3) (0) ((s1) + (s0)) (s2) _ hp
  · rw [if_neg hc38] at hp
    exact p47_j233_w F (K171) (hK171) (h) (w) (v1) (v2) (v3) (1) ((s1) + (s0)) (s2) _ hp
set_option maxRecDepth 100000 in
set_option maxHeartbeats 4000000 in
theorem p47_j82_ok (d : Nat) (F : Nat) (K6 : HS → Int32 → Int32 → Int32 → Option (HS)) (K31 : HS → Int32 → Int32 → Int32 → Int32 → Option (HS)) (hK6 : ∀ (h : HS) (w : WF h) (u1 : Int32) (u2 : Int32) (u3 : Int32) (r : HS), K6 h u1 u2 u3 = some r → ex (d + 2) 47 (6, [some (.ref (39)), some (.int (u1)), some (.int (u2)), some (.int (u3)), none], [], h) = some (none, r)) (hK31 : ∀ (h : HS) (w : WF h) (u1 : Int32) (u2 : Int32) (u3 : Int32) (u4 : Int32) (r : HS), K31 h u1 u2 u3 u4 = some r → ex (d + 2) 47 (31, [some (.ref (39)), some (.int (u1)), some (.int (u2)), some (.int (u3)), some (.int (u4))], [], h) = some (none, r)) (h : HS) (w : WF h) (v1 : Int32) (v2 : Int32) (v3 : Int32) (v4 : Int32) (r : HS) (hp : p47_j82 F K6 K31 h v1 v2 v3 v4 = some r) : ex (d + 2) 47 (82, [some (.ref (39)), some (.int (v1)), some (.int (v2)), some (.int (v3)), some (.int (v4))], [], h) = some (none, r) := by
  unfold p47_j82 at hp
  refine e_iload_n f47_82 rfl ?_
  refine e_iload f47_83 rfl ?_
  by_cases hc27 : (v3) = ((v4) : Int32)
  · rw [if_pos hc27] at hp
    refine e_icmp_eq_t f47_85 hc27 ?_
    refine ex_weak (ls := [some (.ref (39)), some (.int (v1)), some (.int (v2)), some (.int (v3)), some (.int (v4))]) (le2_ok ⟨Or.inr rfl, Or.inr rfl, Or.inr rfl, Or.inr rfl, Or.inr rfl, trivial⟩) ?_
    exact p47_j124_ok d F (K6) (K31) (hK6) (hK31) (h) (w) (v1) (v2) (v3) (v4) _ hp
  · rw [if_neg hc27] at hp
    refine e_icmp_eq_f f47_85 hc27 ?_
    refine e_aload_n f47_88 rfl ?_
    refine e_getR f47_89 (WF.t w 39 (by decide)) rfl (WF.r (q := 33) w 39 0 (by decide)) ?_
    refine e_aload_n f47_92 rfl ?_
    refine e_getR f47_93 (WF.t w 39 (by decide)) rfl (WF.r (q := 40) w 39 5 (by decide)) ?_
    refine e_iload_n f47_96 rfl ?_
    by_cases hg28 : (v3) < (0 : Int32) ∨ 8 ≤ (v3).toNatClampNeg
    · rw [if_pos hg28] at hp; cases hp
    rw [if_neg hg28] at hp
    refine e_iaload f47_97 (Or.inl (WF.t w 40 (by decide))) (WF.n w 40 (by decide)) hg28 ?_
    refine e_aload_n f47_98 rfl ?_
    refine e_getR f47_99 (WF.t w 39 (by decide)) rfl (WF.r (q := 40) w 39 5 (by decide)) ?_
    refine e_iload f47_102 rfl ?_
    by_cases hg29 : (v4) < (0 : Int32) ∨ 8 ≤ (v4).toNatClampNeg
    · rw [if_pos hg29] at hp; cases hp
    rw [if_neg hg29] at hp
    refine e_iaload f47_104 (Or.inl (WF.t w 40 (by decide))) (WF.n w 40 (by decide)) hg29 ?_
    obtain ⟨r30, hr31, hp⟩ := bind_some hp
    try dsimp only at hp
    refine e_callV (st := []) (o := 33) (as := [.int (hI (h) (40) (v3).toNatClampNeg), .int (hI (h) (40) (v4).toNatClampNeg)]) f47_105 (by decide) rfl rfl (Nat.le_of_ble_eq_true rfl) (WF.t w 33 (by decide)) (Nat.le_of_ble_eq_true rfl) (p90_ok d (h) w (hI (h) (40) (v3).toNatClampNeg) (hI (h) (40) (v4).toNatClampNeg) r30 hr31) ?_
    show ex _ 47 (108, [some (.ref (39)), some (.int (v1)), some (.int (v2)), some (.int (v3)), some (.int (v4))], [.int (r30)], h) = _
    by_cases hc32 : (r30) = (0 : Int32)
    · rw [if_pos hc32] at hp
      refine e_if_eq_t f47_108 hc32 ?_
      refine ex_weak (ls := [some (.ref (39)), some (.int (v1)), some (.int (v2)), some (.int (v3)), some (.int (v4))]) (le2_ok ⟨Or.inr rfl, Or.inr rfl, Or.inr rfl, Or.inr rfl, Or.inr rfl, trivial⟩) ?_
      exact p47_j124_ok d F (K6) (K31) (hK6) (hK31) (h) (w) (v1) (v2) (v3) (v4) _ hp
    · rw [if_neg hc32] at hp
      refine e_if_eq_f f47_108 hc32 ?_
      refine e_aload_n f47_111 rfl ?_
      refine e_getR f47_112 (WF.t w 39 (by decide)) rfl (WF.r (q := 42) w 39 7 (by decide)) ?_
      refine e_iload_n f47_115 rfl ?_
      refine e_dup2 f47_116 rfl rfl ?_
      by_cases hg33 : (v3) < (0 : Int32) ∨ 8 ≤ (v3).toNatClampNeg
      · rw [if_pos hg33] at hp; cases hp
      rw [if_neg hg33] at hp
      refine e_iaload f47_117 (Or.inl (WF.t w 42 (by decide))) (WF.n w 42 (by decide)) hg33 ?_
      refine e_iconst (v := 1) f47_118 (by decide) ?_
      refine e_iload f47_119 rfl ?_
      refine e_ishl f47_121 ?_
      refine e_ior f47_122 ?_
      by_cases hg34 : (v3) < (0 : Int32) ∨ 8 ≤ (v3).toNatClampNeg
      · rw [if_pos hg34] at hp; cases hp
      rw [if_neg hg34] at hp
      refine e_iastore f47_123 (WF.t w 42 (by decide)) (WF.n w 42 (by decide)) hg34 ?_
      obtain ⟨h35, e36, hp⟩ := bind_some hp
      try dsimp only at hp
      have e36 := Option.some.inj e36
      have w37 : WF h35 := e36 ▸ w
      rw [e36]
      refine ex_weak (ls := [some (.ref (39)), some (.int (v1)), some (.int (v2)), some (.int (v3)), some (.int (v4))]) (le2_ok ⟨Or.inr rfl, Or.inr rfl, Or.inr rfl, Or.inr rfl, Or.inr rfl, trivial⟩) ?_
      exact p47_j124_ok d F (K6) (K31) (hK6) (hK31) (h35) (w37) (v1) (v2) (v3) (v4) _ hp
set_option maxRecDepth 100000 in
set_option maxHeartbeats 4000000 in
theorem p47_j82_w (F : Nat) (K6 : HS → Int32 → Int32 → Int32 → Option (HS)) (K31 : HS → Int32 → Int32 → Int32 → Int32 → Option (HS)) (hK6 : ∀ (h : HS) (w : WF h) (u1 : Int32) (u2 : Int32) (u3 : Int32) (r : HS), K6 h u1 u2 u3 = some r → WF r) (hK31 : ∀ (h : HS) (w : WF h) (u1 : Int32) (u2 : Int32) (u3 : Int32) (u4 : Int32) (r : HS), K31 h u1 u2 u3 u4 = some r → WF r) (h : HS) (w : WF h) (v1 : Int32) (v2 : Int32) (v3 : Int32) (v4 : Int32) (r : HS) (hp : p47_j82 F K6 K31 h v1 v2 v3 v4 = some r) : WF r := by
  unfold p47_j82 at hp
  by_cases hc27 : (v3) = ((v4) : Int32)
  · rw [if_pos hc27] at hp
    exact p47_j124_w F (K6) (K31) (hK6) (hK31) (h) (w) (v1) (v2) (v3) (v4) _ hp
  · rw [if_neg hc27] at hp
    by_cases hg28 : (v3) < (0 : Int32) ∨ 8 ≤ (v3).toNatClampNeg
    · rw [if_pos hg28] at hp; cases hp
    rw [if_neg hg28] at hp
    by_cases hg29 : (v4) < (0 : Int32) ∨ 8 ≤ (v4).toNatClampNeg
    · rw [if_pos hg29] at hp; cases hp
    rw [if_neg hg29] at hp
    obtain ⟨r30, hr31, hp⟩ := bind_some hp
    try dsimp only at hp
    by_cases hc32 : (r30) = (0 : Int32)
    · rw [if_pos hc32] at hp
      exact p47_j124_w F (K6) (K31) (hK6) (hK31) (h) (w) (v1) (v2) (v3) (v4) _ hp
    · rw [if_neg hc32] at hp
      by_cases hg33 : (v3) < (0 : Int32) ∨ 8 ≤ (v3).toNatClampNeg
      · rw [if_pos hg33] at hp; cases hp
      rw [if_neg hg33] at hp
      by_cases hg34 : (v3) < (0 : Int32) ∨ 8 ≤ (v3).toNatClampNeg
      · rw [if_pos hg34] at hp; cases hp
      rw [if_neg hg34] at hp
      obtain ⟨h35, e36, hp⟩ := bind_some hp
      try dsimp only at hp
      have e36 := Option.some.inj e36
      have w37 : WF h35 := e36 ▸ w
      exact p47_j124_w F (K6) (K31) (hK6) (hK31) (h35) (w37) (v1) (v2) (v3) (v4) _ hp
set_option maxRecDepth 100000 in
set_option maxHeartbeats 4000000 in
theorem p47_L171_ok (d : Nat) (F : Nat) : ∀ (n : Nat) (h : HS) (w : WF h) (v1 : Int32) (v2 : Int32) (v3 : Int32) (r : HS), p47_L171 F n h v1 v2 v3 = some r → ex (d + 2) 47 (171, [some (.ref (39)), some (.int (v1)), some (.int (v2)), some (.int (v3)), none], [], h) = some (none, r) := by
  intro n
  induction n with
  | zero => intro h w v1 v2 v3 r hp; cases hp
  | succ n ih =>
    intro h w v1 v2 v3 r hp
    unfold p47_L171 at hp
    refine e_iload_n f47_171 rfl ?_
    by_cases hc19 : (v3) < (0 : Int32)
    · rw [if_pos hc19] at hp
      refine e_if_lt_t f47_172 hc19 ?_
      have hp := Option.some.inj hp
      subst hp
      exact e_return f47_241
    · rw [if_neg hc19] at hp
      refine e_if_lt_f f47_172 hc19 ?_
      refine e_aload_n f47_175 rfl ?_
      refine e_getR f47_176 (WF.t w 39 (by decide)) rfl (WF.r (q := 43) w 39 8 (by decide)) ?_
      refine e_iload_n f47_179 rfl ?_
      refine e_iload_n f47_180 rfl ?_
      refine e_iload_n f47_181 rfl ?_
      refine e_ishr f47_182 ?_
      refine e_iconst (v := 1) f47_183 (by decide) ?_
      refine e_iand f47_184 ?_
      refine e_iload_n f47_185 rfl ?_
      refine e_iload_n f47_186 rfl ?_
      refine e_ishr f47_187 ?_
      refine e_iconst (v := 1) f47_188 (by decide) ?_
      refine e_iand f47_189 ?_
      refine e_iadd f47_190 ?_
      by_cases hg20 : (v3) < (0 : Int32) ∨ 8 ≤ (v3).toNatClampNeg
      · rw [if_pos hg20] at hp; cases hp
      rw [if_neg hg20] at hp
      refine e_iastore f47_191 (WF.t w 43 (by decide)) (WF.n w 43 (by decide)) hg20 ?_
      obtain ⟨h21, e22, hp⟩ := bind_some hp
      try dsimp only at hp
      have e22 := Option.some.inj e22
      have w23 : WF h21 := e22 ▸ w
      rw [e22]
      refine e_aload_n f47_192 rfl ?_
      refine e_getR f47_193 (WF.t w23 39 (by decide)) rfl (WF.r (q := 44) w23 39 9 (by decide)) ?_
      refine e_iload_n f47_196 rfl ?_
      refine e_aload_n f47_197 rfl ?_
      refine e_getR f47_198 (WF.t w23 39 (by decide)) rfl (WF.r (q := 44) w23 39 9 (by decide)) ?_
      refine e_iload_n f47_201 rfl ?_
      refine e_iconst (v := 1) f47_202 (by decide) ?_
      refine e_iadd f47_203 ?_
      by_cases hg24 : ((v3) + (1)) < (0 : Int32) ∨ 9 ≤ ((v3) + (1)).toNatClampNeg
      · rw [if_pos hg24] at hp; cases hp
      rw [if_neg hg24] at hp
      refine e_iaload f47_204 (Or.inl (WF.t w23 44 (by decide))) (WF.n w23 44 (by decide)) hg24 ?_
      refine e_iload_n f47_205 rfl ?_
      refine e_aload_n f47_206 rfl ?_
      refine e_getI f47_207 (WF.t w23 39 (by decide)) (by decide) ?_
      by_cases hg25 : (hI (h21) (39) 2) = (0 : Int32)
      · rw [if_pos hg25] at hp; cases hp
      rw [if_neg hg25] at hp
      refine e_irem f47_210 hg25 ?_
      by_cases hc26 : (0 : Int32) < ((v3) - (v3) / (hI (h21) (39) 2) * (hI (h21) (39) 2))
      · rw [if_pos hc26] at hp
        refine e_if_le_f f47_211 hc26 ?_
        refine e_iconst (v := 1) f47_214 (by decide) ?_
        refine e_goto f47_215 ?_
        refine ex_weak (ls := [some (.ref (39)), some (.int (v1)), some (.int (v2)), some (.int (v3)), none]) (le2_ok ⟨Or.inr rfl, Or.inr rfl, Or.inr rfl, Or.inr rfl, Or.inl rfl, trivial⟩) ?_
        exact p47_j219_ok d F ((p47_L171 F n)) (ih) (h21) (w23) (v1) (v2) (v3) (1) (hI (h21) (44) ((v3) + (1)).toNatClampNeg) (v3) _ hp
      · rw [if_neg hc26] at hp
        refine e_if_le_t f47_211 hc26 ?_
        refine e_iconst (v := 0) f47_218 (by decide) ?_
        refine ex_weak (ls := [some (.ref (39)), some (.int (v1)), some (.int (v2)), some (.int (v3)), none]) (le2_ok ⟨Or.inr rfl, Or.inr rfl, Or.inr rfl, Or.inr rfl, Or.inl rfl, trivial⟩) ?_
        exact p47_j219_ok d F ((p47_L171 F n)) (ih) (h21) (w23) (v1) (v2) (v3) (0) (hI (h21) (44) ((v3) + (1)).toNatClampNeg) (v3) _ hp
set_option maxRecDepth 100000 in
set_option maxHeartbeats 4000000 in
theorem p47_L171_w (F : Nat) : ∀ (n : Nat) (h : HS) (w : WF h) (v1 : Int32) (v2 : Int32) (v3 : Int32) (r : HS), p47_L171 F n h v1 v2 v3 = some r → WF r := by
  intro n
  induction n with
  | zero => intro h w v1 v2 v3 r hp; cases hp
  | succ n ih =>
    intro h w v1 v2 v3 r hp
    unfold p47_L171 at hp
    by_cases hc19 : (v3) < (0 : Int32)
    · rw [if_pos hc19] at hp
      have hp := Option.some.inj hp
      subst hp
      exact (w)
    · rw [if_neg hc19] at hp
      by_cases hg20 : (v3) < (0 : Int32) ∨ 8 ≤ (v3).toNatClampNeg
      · rw [if_pos hg20] at hp; cases hp
      rw [if_neg hg20] at hp
      obtain ⟨h21, e22, hp⟩ := bind_some hp
      try dsimp only at hp
      have e22 := Option.some.inj e22
      have w23 : WF h21 := e22 ▸ w
      by_cases hg24 : ((v3) + (1)) < (0 : Int32) ∨ 9 ≤ ((v3) + (1)).toNatClampNeg
      · rw [if_pos hg24] at hp; cases hp
      rw [if_neg hg24] at hp
      by_cases hg25 : (hI (h21) (39) 2) = (0 : Int32)
      · rw [if_pos hg25] at hp; cases hp
      rw [if_neg hg25] at hp
      by_cases hc26 : (0 : Int32) < ((v3) - (v3) / (hI (h21) (39) 2) * (hI (h21) (39) 2))
      · rw [if_pos hc26] at hp
        exact p47_j219_w F ((p47_L171 F n)) (ih) (h21) (w23) (v1) (v2) (v3) (1) (hI (h21) (44) ((v3) + (1)).toNatClampNeg) (v3) _ hp
      · rw [if_neg hc26] at hp
        exact p47_j219_w F ((p47_L171 F n)) (ih) (h21) (w23) (v1) (v2) (v3) (0) (hI (h21) (44) ((v3) + (1)).toNatClampNeg) (v3) _ hp
set_option maxRecDepth 100000 in
set_option maxHeartbeats 4000000 in
theorem p47_L31_ok (d : Nat) (F : Nat) (K6 : HS → Int32 → Int32 → Int32 → Option (HS)) (hK6 : ∀ (h : HS) (w : WF h) (u1 : Int32) (u2 : Int32) (u3 : Int32) (r : HS), K6 h u1 u2 u3 = some r → ex (d + 2) 47 (6, [some (.ref (39)), some (.int (u1)), some (.int (u2)), some (.int (u3)), none], [], h) = some (none, r)) : ∀ (n : Nat) (h : HS) (w : WF h) (v1 : Int32) (v2 : Int32) (v3 : Int32) (v4 : Int32) (r : HS), p47_L31 F K6 n h v1 v2 v3 v4 = some r → ex (d + 2) 47 (31, [some (.ref (39)), some (.int (v1)), some (.int (v2)), some (.int (v3)), some (.int (v4))], [], h) = some (none, r) := by
  intro n
  induction n with
  | zero => intro h w v1 v2 v3 v4 r hp; cases hp
  | succ n ih =>
    intro h w v1 v2 v3 v4 r hp
    unfold p47_L31 at hp
    refine e_iload f47_31 rfl ?_
    refine e_aload_n f47_33 rfl ?_
    refine e_getI f47_34 (WF.t w 39 (by decide)) (by decide) ?_
    by_cases hc5 : (v4) < ((hI (h) (39) 1) : Int32)
    · rw [if_pos hc5] at hp
      refine e_icmp_ge_f f47_37 hc5 ?_
      refine e_iload_n f47_40 rfl ?_
      refine e_iload f47_41 rfl ?_
      by_cases hc6 : (v3) = ((v4) : Int32)
      · rw [if_pos hc6] at hp
        refine e_icmp_eq_t f47_43 hc6 ?_
        refine ex_weak (ls := [some (.ref (39)), some (.int (v1)), some (.int (v2)), some (.int (v3)), some (.int (v4))]) (le2_ok ⟨Or.inr rfl, Or.inr rfl, Or.inr rfl, Or.inr rfl, Or.inr rfl, trivial⟩) ?_
        exact p47_j82_ok d F (K6) ((p47_L31 F K6 n)) (hK6) (ih) (h) (w) (v1) (v2) (v3) (v4) _ hp
      · rw [if_neg hc6] at hp
        refine e_icmp_eq_f f47_43 hc6 ?_
        refine e_aload_n f47_46 rfl ?_
        refine e_getR f47_47 (WF.t w 39 (by decide)) rfl (WF.r (q := 33) w 39 0 (by decide)) ?_
        refine e_aload_n f47_50 rfl ?_
        refine e_getR f47_51 (WF.t w 39 (by decide)) rfl (WF.r (q := 40) w 39 5 (by decide)) ?_
        refine e_iload_n f47_54 rfl ?_
        by_cases hg7 : (v3) < (0 : Int32) ∨ 8 ≤ (v3).toNatClampNeg
        · rw [if_pos hg7] at hp; cases hp
        rw [if_neg hg7] at hp
        refine e_iaload f47_55 (Or.inl (WF.t w 40 (by decide))) (WF.n w 40 (by decide)) hg7 ?_
        refine e_aload_n f47_56 rfl ?_
        refine e_getR f47_57 (WF.t w 39 (by decide)) rfl (WF.r (q := 40) w 39 5 (by decide)) ?_
        refine e_iload f47_60 rfl ?_
        by_cases hg8 : (v4) < (0 : Int32) ∨ 8 ≤ (v4).toNatClampNeg
        · rw [if_pos hg8] at hp; cases hp
        rw [if_neg hg8] at hp
        refine e_iaload f47_62 (Or.inl (WF.t w 40 (by decide))) (WF.n w 40 (by decide)) hg8 ?_
        obtain ⟨r9, hr10, hp⟩ := bind_some hp
        try dsimp only at hp
        refine e_callV (st := []) (o := 33) (as := [.int (hI (h) (40) (v3).toNatClampNeg), .int (hI (h) (40) (v4).toNatClampNeg)]) f47_63 (by decide) rfl rfl (Nat.le_of_ble_eq_true rfl) (WF.t w 33 (by decide)) (Nat.le_of_ble_eq_true rfl) (p89_ok d (h) w (hI (h) (40) (v3).toNatClampNeg) (hI (h) (40) (v4).toNatClampNeg) r9 hr10) ?_
        show ex _ 47 (66, [some (.ref (39)), some (.int (v1)), some (.int (v2)), some (.int (v3)), some (.int (v4))], [.int (r9)], h) = _
        by_cases hc11 : (r9) = (0 : Int32)
        · rw [if_pos hc11] at hp
          refine e_if_eq_t f47_66 hc11 ?_
          refine ex_weak (ls := [some (.ref (39)), some (.int (v1)), some (.int (v2)), some (.int (v3)), some (.int (v4))]) (le2_ok ⟨Or.inr rfl, Or.inr rfl, Or.inr rfl, Or.inr rfl, Or.inr rfl, trivial⟩) ?_
          exact p47_j82_ok d F (K6) ((p47_L31 F K6 n)) (hK6) (ih) (h) (w) (v1) (v2) (v3) (v4) _ hp
        · rw [if_neg hc11] at hp
          refine e_if_eq_f f47_66 hc11 ?_
          refine e_aload_n f47_69 rfl ?_
          refine e_getR f47_70 (WF.t w 39 (by decide)) rfl (WF.r (q := 41) w 39 6 (by decide)) ?_
          refine e_iload_n f47_73 rfl ?_
          refine e_dup2 f47_74 rfl rfl ?_
          by_cases hg12 : (v3) < (0 : Int32) ∨ 8 ≤ (v3).toNatClampNeg
          · rw [if_pos hg12] at hp; cases hp
          rw [if_neg hg12] at hp
          refine e_iaload f47_75 (Or.inl (WF.t w 41 (by decide))) (WF.n w 41 (by decide)) hg12 ?_
          refine e_iconst (v := 1) f47_76 (by decide) ?_
          refine e_iload f47_77 rfl ?_
          refine e_ishl f47_79 ?_
          refine e_ior f47_80 ?_
          by_cases hg13 : (v3) < (0 : Int32) ∨ 8 ≤ (v3).toNatClampNeg
          · rw [if_pos hg13] at hp; cases hp
          rw [if_neg hg13] at hp
          refine e_iastore f47_81 (WF.t w 41 (by decide)) (WF.n w 41 (by decide)) hg13 ?_
          obtain ⟨h14, e15, hp⟩ := bind_some hp
          try dsimp only at hp
          have e15 := Option.some.inj e15
          have w16 : WF h14 := e15 ▸ w
          rw [e15]
          refine ex_weak (ls := [some (.ref (39)), some (.int (v1)), some (.int (v2)), some (.int (v3)), some (.int (v4))]) (le2_ok ⟨Or.inr rfl, Or.inr rfl, Or.inr rfl, Or.inr rfl, Or.inr rfl, trivial⟩) ?_
          exact p47_j82_ok d F (K6) ((p47_L31 F K6 n)) (hK6) (ih) (h14) (w16) (v1) (v2) (v3) (v4) _ hp
    · rw [if_neg hc5] at hp
      refine e_icmp_ge_t f47_37 hc5 ?_
      refine e_iload_n f47_130 rfl ?_
      refine e_aload_n f47_131 rfl ?_
      refine e_getR f47_132 (WF.t w 39 (by decide)) rfl (WF.r (q := 41) w 39 6 (by decide)) ?_
      refine e_iload_n f47_135 rfl ?_
      by_cases hg17 : (v3) < (0 : Int32) ∨ 8 ≤ (v3).toNatClampNeg
      · rw [if_pos hg17] at hp; cases hp
      rw [if_neg hg17] at hp
      refine e_iaload f47_136 (Or.inl (WF.t w 41 (by decide))) (WF.n w 41 (by decide)) hg17 ?_
      refine e_ior f47_137 ?_
      refine e_istore_n (ls2 := [some (.ref (39)), some (.int ((v1) ||| (hI (h) (41) (v3).toNatClampNeg))), some (.int (v2)), some (.int (v3)), some (.int (v4))]) f47_138 (Nat.le_of_ble_eq_true rfl) rfl ?_
      refine e_iload_n f47_139 rfl ?_
      refine e_aload_n f47_140 rfl ?_
      refine e_getR f47_141 (WF.t w 39 (by decide)) rfl (WF.r (q := 42) w 39 7 (by decide)) ?_
      refine e_iload_n f47_144 rfl ?_
      by_cases hg18 : (v3) < (0 : Int32) ∨ 8 ≤ (v3).toNatClampNeg
      · rw [if_pos hg18] at hp; cases hp
      rw [if_neg hg18] at hp
      refine e_iaload f47_145 (Or.inl (WF.t w 42 (by decide))) (WF.n w 42 (by decide)) hg18 ?_
      refine e_ior f47_146 ?_
      refine e_istore_n (ls2 := [some (.ref (39)), some (.int ((v1) ||| (hI (h) (41) (v3).toNatClampNeg))), some (.int ((v2) ||| (hI (h) (42) (v3).toNatClampNeg))), some (.int (v3)), some (.int (v4))]) f47_147 (Nat.le_of_ble_eq_true rfl) rfl ?_
      refine e_iinc (ls2 := [some (.ref (39)), some (.int ((v1) ||| (hI (h) (41) (v3).toNatClampNeg))), some (.int ((v2) ||| (hI (h) (42) (v3).toNatClampNeg))), some (.int ((v3) + 1)), some (.int (v4))]) f47_148 (by decide) rfl rfl ?_
      refine e_goto f47_151 ?_
      refine ex_weak (ls := [some (.ref (39)), some (.int ((v1) ||| (hI (h) (41) (v3).toNatClampNeg))), some (.int ((v2) ||| (hI (h) (42) (v3).toNatClampNeg))), some (.int ((v3) + 1)), none]) (le2_ok ⟨Or.inr rfl, Or.inr rfl, Or.inr rfl, Or.inr rfl, Or.inl rfl, trivial⟩) ?_
      exact hK6 (h) (w) ((v1) ||| (hI (h) (41) (v3).toNatClampNeg)) ((v2) ||| (hI (h) (42) (v3).toNatClampNeg)) ((v3) + 1) _ hp
set_option maxRecDepth 100000 in
set_option maxHeartbeats 4000000 in
theorem p47_L31_w (F : Nat) (K6 : HS → Int32 → Int32 → Int32 → Option (HS)) (hK6 : ∀ (h : HS) (w : WF h) (u1 : Int32) (u2 : Int32) (u3 : Int32) (r : HS), K6 h u1 u2 u3 = some r → WF r) : ∀ (n : Nat) (h : HS) (w : WF h) (v1 : Int32) (v2 : Int32) (v3 : Int32) (v4 : Int32) (r : HS), p47_L31 F K6 n h v1 v2 v3 v4 = some r → WF r := by
  intro n
  induction n with
  | zero => intro h w v1 v2 v3 v4 r hp; cases hp
  | succ n ih =>
    intro h w v1 v2 v3 v4 r hp
    unfold p47_L31 at hp
    by_cases hc5 : (v4) < ((hI (h) (39) 1) : Int32)
    · rw [if_pos hc5] at hp
      by_cases hc6 : (v3) = ((v4) : Int32)
      · rw [if_pos hc6] at hp
        exact p47_j82_w F (K6) ((p47_L31 F K6 n)) (hK6) (ih) (h) (w) (v1) (v2) (v3) (v4) _ hp
      · rw [if_neg hc6] at hp
        by_cases hg7 : (v3) < (0 : Int32) ∨ 8 ≤ (v3).toNatClampNeg
        · rw [if_pos hg7] at hp; cases hp
        rw [if_neg hg7] at hp
        by_cases hg8 : (v4) < (0 : Int32) ∨ 8 ≤ (v4).toNatClampNeg
        · rw [if_pos hg8] at hp; cases hp
        rw [if_neg hg8] at hp
        obtain ⟨r9, hr10, hp⟩ := bind_some hp
        try dsimp only at hp
        by_cases hc11 : (r9) = (0 : Int32)
        · rw [if_pos hc11] at hp
          exact p47_j82_w F (K6) ((p47_L31 F K6 n)) (hK6) (ih) (h) (w) (v1) (v2) (v3) (v4) _ hp
        · rw [if_neg hc11] at hp
          by_cases hg12 : (v3) < (0 : Int32) ∨ 8 ≤ (v3).toNatClampNeg
          · rw [if_pos hg12] at hp; cases hp
          rw [if_neg hg12] at hp
          by_cases hg13 : (v3) < (0 : Int32) ∨ 8 ≤ (v3).toNatClampNeg
          · rw [if_pos hg13] at hp; cases hp
          rw [if_neg hg13] at hp
          obtain ⟨h14, e15, hp⟩ := bind_some hp
          try dsimp only at hp
          have e15 := Option.some.inj e15
          have w16 : WF h14 := e15 ▸ w
          exact p47_j82_w F (K6) ((p47_L31 F K6 n)) (hK6) (ih) (h14) (w16) (v1) (v2) (v3) (v4) _ hp
    · rw [if_neg hc5] at hp
      by_cases hg17 : (v3) < (0 : Int32) ∨ 8 ≤ (v3).toNatClampNeg
      · rw [if_pos hg17] at hp; cases hp
      rw [if_neg hg17] at hp
      by_cases hg18 : (v3) < (0 : Int32) ∨ 8 ≤ (v3).toNatClampNeg
      · rw [if_pos hg18] at hp; cases hp
      rw [if_neg hg18] at hp
      exact hK6 (h) (w) ((v1) ||| (hI (h) (41) (v3).toNatClampNeg)) ((v2) ||| (hI (h) (42) (v3).toNatClampNeg)) ((v3) + 1) _ hp
set_option maxRecDepth 100000 in
set_option maxHeartbeats 4000000 in
theorem p47_L6_ok (d : Nat) (F : Nat) : ∀ (n : Nat) (h : HS) (w : WF h) (v1 : Int32) (v2 : Int32) (v3 : Int32) (r : HS), p47_L6 F n h v1 v2 v3 = some r → ex (d + 2) 47 (6, [some (.ref (39)), some (.int (v1)), some (.int (v2)), some (.int (v3)), none], [], h) = some (none, r) := by
  intro n
  induction n with
  | zero => intro h w v1 v2 v3 r hp; cases hp
  | succ n ih =>
    intro h w v1 v2 v3 r hp
    unfold p47_L6 at hp
    refine e_iload_n f47_6 rfl ?_
    refine e_aload_n f47_7 rfl ?_
    refine e_getI f47_8 (WF.t w 39 (by decide)) (by decide) ?_
    by_cases hc1 : (v3) < ((hI (h) (39) 1) : Int32)
    · rw [if_pos hc1] at hp
      refine e_icmp_ge_f f47_11 hc1 ?_
      refine e_aload_n f47_14 rfl ?_
      refine e_getR f47_15 (WF.t w 39 (by decide)) rfl (WF.r (q := 41) w 39 6 (by decide)) ?_
      refine e_iload_n f47_18 rfl ?_
      refine e_iconst (v := 0) f47_19 (by decide) ?_
      by_cases hg2 : (v3) < (0 : Int32) ∨ 8 ≤ (v3).toNatClampNeg
      · rw [if_pos hg2] at hp; cases hp
      rw [if_neg hg2] at hp
      refine e_iastore f47_20 (WF.t w 41 (by decide)) (WF.n w 41 (by decide)) hg2 ?_
      refine e_aload_n f47_21 rfl ?_
      refine e_getR f47_22 (WF.t w 39 (by decide)) rfl (WF.r (q := 42) w 39 7 (by decide)) ?_
      refine e_iload_n f47_25 rfl ?_
      refine e_iconst (v := 0) f47_26 (by decide) ?_
      by_cases hg3 : (v3) < (0 : Int32) ∨ 8 ≤ (v3).toNatClampNeg
      · rw [if_pos hg3] at hp; cases hp
      rw [if_neg hg3] at hp
      refine e_iastore f47_27 (WF.t w 42 (by decide)) (WF.n w 42 (by decide)) hg3 ?_
      refine e_iconst (v := 0) f47_28 (by decide) ?_
      refine e_istore (ls2 := [some (.ref (39)), some (.int (v1)), some (.int (v2)), some (.int (v3)), some (.int (0))]) f47_29 (Nat.le_of_ble_eq_true rfl) rfl ?_
      refine ex_weak (ls := [some (.ref (39)), some (.int (v1)), some (.int (v2)), some (.int (v3)), some (.int (0))]) (le2_ok ⟨Or.inr rfl, Or.inr rfl, Or.inr rfl, Or.inr rfl, Or.inr rfl, trivial⟩) ?_
      exact p47_L31_ok d F ((p47_L6 F n)) (ih) F (hsI (hsI (h) (41) (v3).toNatClampNeg (0)) (42) (v3).toNatClampNeg (0)) (w) (v1) (v2) (v3) (0) _ hp
    · rw [if_neg hc1] at hp
      refine e_icmp_ge_t f47_11 hc1 ?_
      refine e_aload_n f47_154 rfl ?_
      refine e_getR f47_155 (WF.t w 39 (by decide)) rfl (WF.r (q := 44) w 39 9 (by decide)) ?_
      refine e_aload_n f47_158 rfl ?_
      refine e_getI f47_159 (WF.t w 39 (by decide)) (by decide) ?_
      refine e_iconst (v := 0) f47_162 (by decide) ?_
      by_cases hg4 : (hI (h) (39) 1) < (0 : Int32) ∨ 9 ≤ (hI (h) (39) 1).toNatClampNeg
      · rw [if_pos hg4] at hp; cases hp
      rw [if_neg hg4] at hp
      refine e_iastore f47_163 (WF.t w 44 (by decide)) (WF.n w 44 (by decide)) hg4 ?_
      refine e_aload_n f47_164 rfl ?_
      refine e_getI f47_165 (WF.t w 39 (by decide)) (by decide) ?_
      refine e_iconst (v := 1) f47_168 (by decide) ?_
      refine e_isub f47_169 ?_
      refine e_istore_n (ls2 := [some (.ref (39)), some (.int (v1)), some (.int (v2)), some (.int ((hI (hsI (h) (44) (hI (h) (39) 1).toNatClampNeg (0)) (39) 1) - (1))), none]) f47_170 (Nat.le_of_ble_eq_true rfl) rfl ?_
      refine ex_weak (ls := [some (.ref (39)), some (.int (v1)), some (.int (v2)), some (.int ((hI (hsI (h) (44) (hI (h) (39) 1).toNatClampNeg (0)) (39) 1) - (1))), none]) (le2_ok ⟨Or.inr rfl, Or.inr rfl, Or.inr rfl, Or.inr rfl, Or.inl rfl, trivial⟩) ?_
      exact p47_L171_ok d F F (hsI (h) (44) (hI (h) (39) 1).toNatClampNeg (0)) (w) (v1) (v2) ((hI (hsI (h) (44) (hI (h) (39) 1).toNatClampNeg (0)) (39) 1) - (1)) _ hp
set_option maxRecDepth 100000 in
set_option maxHeartbeats 4000000 in
theorem p47_L6_w (F : Nat) : ∀ (n : Nat) (h : HS) (w : WF h) (v1 : Int32) (v2 : Int32) (v3 : Int32) (r : HS), p47_L6 F n h v1 v2 v3 = some r → WF r := by
  intro n
  induction n with
  | zero => intro h w v1 v2 v3 r hp; cases hp
  | succ n ih =>
    intro h w v1 v2 v3 r hp
    unfold p47_L6 at hp
    by_cases hc1 : (v3) < ((hI (h) (39) 1) : Int32)
    · rw [if_pos hc1] at hp
      by_cases hg2 : (v3) < (0 : Int32) ∨ 8 ≤ (v3).toNatClampNeg
      · rw [if_pos hg2] at hp; cases hp
      rw [if_neg hg2] at hp
      by_cases hg3 : (v3) < (0 : Int32) ∨ 8 ≤ (v3).toNatClampNeg
      · rw [if_pos hg3] at hp; cases hp
      rw [if_neg hg3] at hp
      exact p47_L31_w F ((p47_L6 F n)) (ih) F (hsI (hsI (h) (41) (v3).toNatClampNeg (0)) (42) (v3).toNatClampNeg (0)) (w) (v1) (v2) (v3) (0) _ hp
    · rw [if_neg hc1] at hp
      by_cases hg4 : (hI (h) (39) 1) < (0 : Int32) ∨ 9 ≤ (hI (h) (39) 1).toNatClampNeg
      · rw [if_pos hg4] at hp; cases hp
      rw [if_neg hg4] at hp
      exact p47_L171_w F F (hsI (h) (44) (hI (h) (39) 1).toNatClampNeg (0)) (w) (v1) (v2) ((hI (hsI (h) (44) (hI (h) (39) 1).toNatClampNeg (0)) (39) 1) - (1)) _ hp
set_option maxRecDepth 100000 in
set_option maxHeartbeats 4000000 in
theorem p47_ok (d : Nat) (F : Nat) (h : HS) (w : WF h) (r : HS) (hp : p47 F h = some r) : ex (d + 2) 47 (ent 47 [.ref (39)] h) = some (none, r) := by
  rw [show ent 47 [.ref (39)] h = (0, [some (.ref (39)), none, none, none, none], [], h) from by  rfl]
  refine ex_weak (ls := [some (.ref (39)), none, none, none, none]) (le2_ok ⟨Or.inr rfl, Or.inr rfl, Or.inr rfl, Or.inr rfl, Or.inr rfl, trivial⟩) ?_
  unfold p47 at hp
  refine e_iconst (v := 0) f47_0 (by decide) ?_
  refine e_istore_n (ls2 := [some (.ref (39)), some (.int (0)), none, none, none]) f47_1 (Nat.le_of_ble_eq_true rfl) rfl ?_
  refine e_iconst (v := 0) f47_2 (by decide) ?_
  refine e_istore_n (ls2 := [some (.ref (39)), some (.int (0)), some (.int (0)), none, none]) f47_3 (Nat.le_of_ble_eq_true rfl) rfl ?_
  refine e_iconst (v := 0) f47_4 (by decide) ?_
  refine e_istore_n (ls2 := [some (.ref (39)), some (.int (0)), some (.int (0)), some (.int (0)), none]) f47_5 (Nat.le_of_ble_eq_true rfl) rfl ?_
  refine ex_weak (ls := [some (.ref (39)), some (.int (0)), some (.int (0)), some (.int (0)), none]) (le2_ok ⟨Or.inr rfl, Or.inr rfl, Or.inr rfl, Or.inr rfl, Or.inl rfl, trivial⟩) ?_
  exact p47_L6_ok d F F (h) (w) (0) (0) (0) _ hp
set_option maxRecDepth 100000 in
set_option maxHeartbeats 4000000 in
theorem p47_w (F : Nat) (h : HS) (w : WF h) (r : HS) (hp : p47 F h = some r) : WF r := by
  unfold p47 at hp
  exact p47_L6_w F F (h) (w) (0) (0) (0) _ hp
theorem f49_0 : fetch 49 0 = some (.iconst 0, 0, 0, 0) := rfl
theorem f49_1 : fetch 49 1 = some (.istore_n 3, 0, 0, 0) := rfl
theorem f49_2 : fetch 49 2 = some (.iload_n 1, 0, 0, 0) := rfl
theorem f49_3 : fetch 49 3 = some (.aload_n 0, 0, 0, 0) := rfl
theorem f49_4 : fetch 49 4 = some (.getfield 65, 3, 2, 0) := rfl
theorem f49_7 : fetch 49 7 = some (.irem, 0, 0, 0) := rfl
theorem f49_8 : fetch 49 8 = some (.ifCond .le 23, 31, 0, 0) := rfl
theorem f49_11 : fetch 49 11 = some (.iload_n 3, 0, 0, 0) := rfl
theorem f49_12 : fetch 49 12 = some (.aload_n 0, 0, 0, 0) := rfl
theorem f49_13 : fetch 49 13 = some (.getfield 15, 3, 6, 2) := rfl
theorem f49_16 : fetch 49 16 = some (.aload_n 0, 0, 0, 0) := rfl
theorem f49_17 : fetch 49 17 = some (.getfield 27, 3, 10, 2) := rfl
theorem f49_20 : fetch 49 20 = some (.iload_n 1, 0, 0, 0) := rfl
theorem f49_21 : fetch 49 21 = some (.iconst 1, 0, 0, 0) := rfl
theorem f49_22 : fetch 49 22 = some (.isub, 0, 0, 0) := rfl
theorem f49_23 : fetch 49 23 = some (.iaload, 0, 0, 0) := rfl
theorem f49_24 : fetch 49 24 = some (.iaload, 0, 0, 0) := rfl
theorem f49_25 : fetch 49 25 = some (.iload_n 2, 0, 0, 0) := rfl
theorem f49_26 : fetch 49 26 = some (.ishr, 0, 0, 0) := rfl
theorem f49_27 : fetch 49 27 = some (.iconst 1, 0, 0, 0) := rfl
theorem f49_28 : fetch 49 28 = some (.iand, 0, 0, 0) := rfl
theorem f49_29 : fetch 49 29 = some (.iadd, 0, 0, 0) := rfl
theorem f49_30 : fetch 49 30 = some (.istore_n 3, 0, 0, 0) := rfl
theorem f49_31 : fetch 49 31 = some (.iload_n 1, 0, 0, 0) := rfl
theorem f49_32 : fetch 49 32 = some (.aload_n 0, 0, 0, 0) := rfl
theorem f49_33 : fetch 49 33 = some (.getfield 65, 3, 2, 0) := rfl
theorem f49_36 : fetch 49 36 = some (.if_icmp .lt 26, 62, 0, 0) := rfl
theorem f49_39 : fetch 49 39 = some (.iload_n 3, 0, 0, 0) := rfl
theorem f49_40 : fetch 49 40 = some (.aload_n 0, 0, 0, 0) := rfl
theorem f49_41 : fetch 49 41 = some (.getfield 18, 3, 7, 2) := rfl
theorem f49_44 : fetch 49 44 = some (.aload_n 0, 0, 0, 0) := rfl
theorem f49_45 : fetch 49 45 = some (.getfield 27, 3, 10, 2) := rfl
theorem f49_48 : fetch 49 48 = some (.iload_n 1, 0, 0, 0) := rfl
theorem f49_49 : fetch 49 49 = some (.aload_n 0, 0, 0, 0) := rfl
theorem f49_50 : fetch 49 50 = some (.getfield 65, 3, 2, 0) := rfl
theorem f49_53 : fetch 49 53 = some (.isub, 0, 0, 0) := rfl
theorem f49_54 : fetch 49 54 = some (.iaload, 0, 0, 0) := rfl
theorem f49_55 : fetch 49 55 = some (.iaload, 0, 0, 0) := rfl
theorem f49_56 : fetch 49 56 = some (.iload_n 2, 0, 0, 0) := rfl
theorem f49_57 : fetch 49 57 = some (.ishr, 0, 0, 0) := rfl
theorem f49_58 : fetch 49 58 = some (.iconst 1, 0, 0, 0) := rfl
theorem f49_59 : fetch 49 59 = some (.iand, 0, 0, 0) := rfl
theorem f49_60 : fetch 49 60 = some (.iadd, 0, 0, 0) := rfl
theorem f49_61 : fetch 49 61 = some (.istore_n 3, 0, 0, 0) := rfl
theorem f49_62 : fetch 49 62 = some (.iload_n 3, 0, 0, 0) := rfl
theorem f49_63 : fetch 49 63 = some (.ireturn, 0, 0, 0) := rfl
set_option maxRecDepth 100000 in
set_option maxHeartbeats 4000000 in
theorem p49_j31_ok (d : Nat) (a0 : Int32) (a1 : Int32) (h : HS) (w : WF h)  (v3 : Int32) (r : Int32) (hp : p49_j31 a0 a1 h v3 = some r) : ex (d + 0) 49 (31, [some (.ref (39)), some (.int (a0)), some (.int (a1)), some (.int (v3))], [], h) = some (some (.int (r)), h) := by
  unfold p49_j31 at hp
  refine e_iload_n f49_31 rfl ?_
  refine e_aload_n f49_32 rfl ?_
  refine e_getI f49_33 (WF.t w 39 (by decide)) (by decide) ?_
  by_cases hc5 : (a0) < ((hI (h) (39) 2) : Int32)
  · rw [if_pos hc5] at hp
    refine e_icmp_lt_t f49_36 hc5 ?_
    refine e_iload_n f49_62 rfl ?_
    have hp := Option.some.inj hp
    subst hp
    exact e_ireturn f49_63 (Or.inl rfl)
  · rw [if_neg hc5] at hp
    refine e_icmp_lt_f f49_36 hc5 ?_
    refine e_iload_n f49_39 rfl ?_
    refine e_aload_n f49_40 rfl ?_
    refine e_getR f49_41 (WF.t w 39 (by decide)) rfl (WF.r (q := 42) w 39 7 (by decide)) ?_
    refine e_aload_n f49_44 rfl ?_
    refine e_getR f49_45 (WF.t w 39 (by decide)) rfl (WF.r (q := 45) w 39 10 (by decide)) ?_
    refine e_iload_n f49_48 rfl ?_
    refine e_aload_n f49_49 rfl ?_
    refine e_getI f49_50 (WF.t w 39 (by decide)) (by decide) ?_
    refine e_isub f49_53 ?_
    by_cases hg6 : ((a0) - (hI (h) (39) 2)) < (0 : Int32) ∨ 8 ≤ ((a0) - (hI (h) (39) 2)).toNatClampNeg
    · rw [if_pos hg6] at hp; cases hp
    rw [if_neg hg6] at hp
    refine e_iaload f49_54 (Or.inl (WF.t w 45 (by decide))) (WF.n w 45 (by decide)) hg6 ?_
    by_cases hg7 : (hI (h) (45) ((a0) - (hI (h) (39) 2)).toNatClampNeg) < (0 : Int32) ∨ 8 ≤ (hI (h) (45) ((a0) - (hI (h) (39) 2)).toNatClampNeg).toNatClampNeg
    · rw [if_pos hg7] at hp; cases hp
    rw [if_neg hg7] at hp
    refine e_iaload f49_55 (Or.inl (WF.t w 42 (by decide))) (WF.n w 42 (by decide)) hg7 ?_
    refine e_iload_n f49_56 rfl ?_
    refine e_ishr f49_57 ?_
    refine e_iconst (v := 1) f49_58 (by decide) ?_
    refine e_iand f49_59 ?_
    refine e_iadd f49_60 ?_
    refine e_istore_n (ls2 := [some (.ref (39)), some (.int (a0)), some (.int (a1)), some (.int ((v3) + (((hI (h) (42) (hI (h) (45) ((a0) - (hI (h) (39) 2)).toNatClampNeg).toNatClampNeg) >>> ((a1) &&& 31)) &&& (1))))]) f49_61 (Nat.le_of_ble_eq_true rfl) rfl ?_
    refine e_iload_n f49_62 rfl ?_
    have hp := Option.some.inj hp
    subst hp
    exact e_ireturn f49_63 (Or.inl rfl)
set_option maxRecDepth 100000 in
set_option maxHeartbeats 4000000 in
theorem p49_ok (d : Nat) (h : HS) (w : WF h) (a0 : Int32) (a1 : Int32) (r : Int32) (hp : p49 h a0 a1 = some r) : ex (d + 0) 49 (ent 49 [.ref (39), .int (a0), .int (a1)] h) = some (some (.int (r)), h) := by
  rw [show ent 49 [.ref (39), .int (a0), .int (a1)] h = (0, [some (.ref (39)), some (.int (a0)), some (.int (a1)), none], [], h) from by  rfl]
  refine ex_weak (ls := [some (.ref (39)), some (.int (a0)), some (.int (a1)), none]) (le2_ok ⟨Or.inr rfl, Or.inr rfl, Or.inr rfl, Or.inr rfl, trivial⟩) ?_
  unfold p49 at hp
  refine e_iconst (v := 0) f49_0 (by decide) ?_
  refine e_istore_n (ls2 := [some (.ref (39)), some (.int (a0)), some (.int (a1)), some (.int (0))]) f49_1 (Nat.le_of_ble_eq_true rfl) rfl ?_
  refine e_iload_n f49_2 rfl ?_
  refine e_aload_n f49_3 rfl ?_
  refine e_getI f49_4 (WF.t w 39 (by decide)) (by decide) ?_
  by_cases hg1 : (hI (h) (39) 2) = (0 : Int32)
  · rw [if_pos hg1] at hp; cases hp
  rw [if_neg hg1] at hp
  refine e_irem f49_7 hg1 ?_
  by_cases hc2 : (0 : Int32) < ((a0) - (a0) / (hI (h) (39) 2) * (hI (h) (39) 2))
  · rw [if_pos hc2] at hp
    refine e_if_le_f f49_8 hc2 ?_
    refine e_iload_n f49_11 rfl ?_
    refine e_aload_n f49_12 rfl ?_
    refine e_getR f49_13 (WF.t w 39 (by decide)) rfl (WF.r (q := 41) w 39 6 (by decide)) ?_
    refine e_aload_n f49_16 rfl ?_
    refine e_getR f49_17 (WF.t w 39 (by decide)) rfl (WF.r (q := 45) w 39 10 (by decide)) ?_
    refine e_iload_n f49_20 rfl ?_
    refine e_iconst (v := 1) f49_21 (by decide) ?_
    refine e_isub f49_22 ?_
    by_cases hg3 : ((a0) - (1)) < (0 : Int32) ∨ 8 ≤ ((a0) - (1)).toNatClampNeg
    · rw [if_pos hg3] at hp; cases hp
    rw [if_neg hg3] at hp
    refine e_iaload f49_23 (Or.inl (WF.t w 45 (by decide))) (WF.n w 45 (by decide)) hg3 ?_
    by_cases hg4 : (hI (h) (45) ((a0) - (1)).toNatClampNeg) < (0 : Int32) ∨ 8 ≤ (hI (h) (45) ((a0) - (1)).toNatClampNeg).toNatClampNeg
    · rw [if_pos hg4] at hp; cases hp
    rw [if_neg hg4] at hp
    refine e_iaload f49_24 (Or.inl (WF.t w 41 (by decide))) (WF.n w 41 (by decide)) hg4 ?_
    refine e_iload_n f49_25 rfl ?_
    refine e_ishr f49_26 ?_
    refine e_iconst (v := 1) f49_27 (by decide) ?_
    refine e_iand f49_28 ?_
    refine e_iadd f49_29 ?_
    refine e_istore_n (ls2 := [some (.ref (39)), some (.int (a0)), some (.int (a1)), some (.int ((0) + (((hI (h) (41) (hI (h) (45) ((a0) - (1)).toNatClampNeg).toNatClampNeg) >>> ((a1) &&& 31)) &&& (1))))]) f49_30 (Nat.le_of_ble_eq_true rfl) rfl ?_
    refine ex_weak (ls := [some (.ref (39)), some (.int (a0)), some (.int (a1)), some (.int ((0) + (((hI (h) (41) (hI (h) (45) ((a0) - (1)).toNatClampNeg).toNatClampNeg) >>> ((a1) &&& 31)) &&& (1))))]) (le2_ok ⟨Or.inr rfl, Or.inr rfl, Or.inr rfl, Or.inr rfl, trivial⟩) ?_
    exact p49_j31_ok d a0 a1 (h) (w) ((0) + (((hI (h) (41) (hI (h) (45) ((a0) - (1)).toNatClampNeg).toNatClampNeg) >>> ((a1) &&& 31)) &&& (1))) _ hp
  · rw [if_neg hc2] at hp
    refine e_if_le_t f49_8 hc2 ?_
    refine ex_weak (ls := [some (.ref (39)), some (.int (a0)), some (.int (a1)), some (.int (0))]) (le2_ok ⟨Or.inr rfl, Or.inr rfl, Or.inr rfl, Or.inr rfl, trivial⟩) ?_
    exact p49_j31_ok d a0 a1 (h) (w) (0) _ hp
theorem f51_0 : fetch 51 0 = some (.iconst 0, 0, 0, 0) := rfl
theorem f51_1 : fetch 51 1 = some (.istore 4, 0, 0, 0) := rfl
theorem f51_3 : fetch 51 3 = some (.iload 4, 0, 0, 0) := rfl
theorem f51_5 : fetch 51 5 = some (.iload_n 2, 0, 0, 0) := rfl
theorem f51_6 : fetch 51 6 = some (.if_icmp .ge 25, 31, 0, 0) := rfl
theorem f51_9 : fetch 51 9 = some (.aload_n 1, 0, 0, 0) := rfl
theorem f51_10 : fetch 51 10 = some (.iload 4, 0, 0, 0) := rfl
theorem f51_12 : fetch 51 12 = some (.aload_n 0, 0, 0, 0) := rfl
theorem f51_13 : fetch 51 13 = some (.getfield 9, 3, 5, 2) := rfl
theorem f51_16 : fetch 51 16 = some (.aload_n 0, 0, 0, 0) := rfl
theorem f51_17 : fetch 51 17 = some (.getfield 27, 3, 10, 2) := rfl
theorem f51_20 : fetch 51 20 = some (.iload 4, 0, 0, 0) := rfl
theorem f51_22 : fetch 51 22 = some (.iaload, 0, 0, 0) := rfl
theorem f51_23 : fetch 51 23 = some (.iaload, 0, 0, 0) := rfl
theorem f51_24 : fetch 51 24 = some (.iastore, 0, 0, 0) := rfl
theorem f51_25 : fetch 51 25 = some (.iinc 4 1, 0, 0, 0) := rfl
theorem f51_28 : fetch 51 28 = some (.goto (-25), 3, 0, 0) := rfl
theorem f51_31 : fetch 51 31 = some (.iload_n 2, 0, 0, 0) := rfl
theorem f51_32 : fetch 51 32 = some (.istore 4, 0, 0, 0) := rfl
theorem f51_34 : fetch 51 34 = some (.iconst 0, 0, 0, 0) := rfl
theorem f51_35 : fetch 51 35 = some (.istore 5, 0, 0, 0) := rfl
theorem f51_37 : fetch 51 37 = some (.iload 5, 0, 0, 0) := rfl
theorem f51_39 : fetch 51 39 = some (.aload_n 0, 0, 0, 0) := rfl
theorem f51_40 : fetch 51 40 = some (.getfield 61, 3, 1, 0) := rfl
theorem f51_43 : fetch 51 43 = some (.if_icmp .ge 41, 84, 0, 0) := rfl
theorem f51_46 : fetch 51 46 = some (.iload_n 3, 0, 0, 0) := rfl
theorem f51_47 : fetch 51 47 = some (.iload 5, 0, 0, 0) := rfl
theorem f51_49 : fetch 51 49 = some (.ishr, 0, 0, 0) := rfl
theorem f51_50 : fetch 51 50 = some (.iconst 1, 0, 0, 0) := rfl
theorem f51_51 : fetch 51 51 = some (.iand, 0, 0, 0) := rfl
theorem f51_52 : fetch 51 52 = some (.ifCond .ne 26, 78, 0, 0) := rfl
theorem f51_55 : fetch 51 55 = some (.iload 4, 0, 0, 0) := rfl
theorem f51_57 : fetch 51 57 = some (.aload_n 0, 0, 0, 0) := rfl
theorem f51_58 : fetch 51 58 = some (.getfield 61, 3, 1, 0) := rfl
theorem f51_61 : fetch 51 61 = some (.if_icmp .ge 17, 78, 0, 0) := rfl
theorem f51_64 : fetch 51 64 = some (.aload_n 1, 0, 0, 0) := rfl
theorem f51_65 : fetch 51 65 = some (.iload 4, 0, 0, 0) := rfl
theorem f51_67 : fetch 51 67 = some (.aload_n 0, 0, 0, 0) := rfl
theorem f51_68 : fetch 51 68 = some (.getfield 9, 3, 5, 2) := rfl
theorem f51_71 : fetch 51 71 = some (.iload 5, 0, 0, 0) := rfl
theorem f51_73 : fetch 51 73 = some (.iaload, 0, 0, 0) := rfl
theorem f51_74 : fetch 51 74 = some (.iastore, 0, 0, 0) := rfl
theorem f51_75 : fetch 51 75 = some (.iinc 4 1, 0, 0, 0) := rfl
theorem f51_78 : fetch 51 78 = some (.iinc 5 1, 0, 0, 0) := rfl
theorem f51_81 : fetch 51 81 = some (.goto (-44), 37, 0, 0) := rfl
theorem f51_84 : fetch 51 84 = some (.return_, 0, 0, 0) := rfl
set_option maxRecDepth 100000 in
set_option maxHeartbeats 4000000 in
theorem p51_j78_ok (d : Nat) (F : Nat) (a0 : Option Nat) (a1 : Int32) (a2 : Int32) (K37 : HS → Int32 → Int32 → Option (HS)) (hK37 : ∀ (h : HS) (w : WF h) (u4 : Int32) (u5 : Int32) (r : HS), K37 h u4 u5 = some r → ex (d + 0) 51 (37, [some (.ref (39)), some (va_rf (a0)), none, some (.int (a2)), some (.int (u4)), some (.int (u5))], [], h) = some (none, r)) (h : HS) (w : WF h) (v4 : Int32) (v5 : Int32) (r : HS) (hp : p51_j78 F a0 a1 a2 K37 h v4 v5 = some r) : ex (d + 0) 51 (78, [some (.ref (39)), some (va_rf (a0)), none, some (.int (a2)), some (.int (v4)), some (.int (v5))], [], h) = some (none, r) := by
  unfold p51_j78 at hp
  refine e_iinc (ls2 := [some (.ref (39)), some (va_rf (a0)), none, some (.int (a2)), some (.int (v4)), some (.int ((v5) + 1))]) f51_78 (by decide) rfl rfl ?_
  refine e_goto f51_81 ?_
  refine ex_weak (ls := [some (.ref (39)), some (va_rf (a0)), none, some (.int (a2)), some (.int (v4)), some (.int ((v5) + 1))]) (le2_ok ⟨Or.inr rfl, Or.inr rfl, Or.inl rfl, Or.inr rfl, Or.inr rfl, Or.inr rfl, trivial⟩) ?_
  exact hK37 (h) (w) (v4) ((v5) + 1) _ hp
set_option maxRecDepth 100000 in
set_option maxHeartbeats 4000000 in
theorem p51_j78_w (F : Nat) (a0 : Option Nat) (a1 : Int32) (a2 : Int32) (K37 : HS → Int32 → Int32 → Option (HS)) (hK37 : ∀ (h : HS) (w : WF h) (u4 : Int32) (u5 : Int32) (r : HS), K37 h u4 u5 = some r → WF r) (h : HS) (w : WF h) (v4 : Int32) (v5 : Int32) (r : HS) (hp : p51_j78 F a0 a1 a2 K37 h v4 v5 = some r) : WF r := by
  unfold p51_j78 at hp
  exact hK37 (h) (w) (v4) ((v5) + 1) _ hp
set_option maxRecDepth 100000 in
set_option maxHeartbeats 4000000 in
theorem p51_L37_ok (d : Nat) (F : Nat) (a0 : Option Nat) (a1 : Int32) (a2 : Int32) : ∀ (n : Nat) (h : HS) (w : WF h) (v4 : Int32) (v5 : Int32) (r : HS), p51_L37 F a0 a1 a2 n h v4 v5 = some r → ex (d + 0) 51 (37, [some (.ref (39)), some (va_rf (a0)), none, some (.int (a2)), some (.int (v4)), some (.int (v5))], [], h) = some (none, r) := by
  intro n
  induction n with
  | zero => intro h w v4 v5 r hp; cases hp
  | succ n ih =>
    intro h w v4 v5 r hp
    unfold p51_L37 at hp
    refine e_iload f51_37 rfl ?_
    refine e_aload_n f51_39 rfl ?_
    refine e_getI f51_40 (WF.t w 39 (by decide)) (by decide) ?_
    by_cases hc11 : (v5) < ((hI (h) (39) 1) : Int32)
    · rw [if_pos hc11] at hp
      refine e_icmp_ge_f f51_43 hc11 ?_
      refine e_iload_n f51_46 rfl ?_
      refine e_iload f51_47 rfl ?_
      refine e_ishr f51_49 ?_
      refine e_iconst (v := 1) f51_50 (by decide) ?_
      refine e_iand f51_51 ?_
      by_cases hc12 : (((a2) >>> ((v5) &&& 31)) &&& (1)) = (0 : Int32)
      · rw [if_pos hc12] at hp
        refine e_if_ne_f f51_52 hc12 ?_
        refine e_iload f51_55 rfl ?_
        refine e_aload_n f51_57 rfl ?_
        refine e_getI f51_58 (WF.t w 39 (by decide)) (by decide) ?_
        by_cases hc13 : (v4) < ((hI (h) (39) 1) : Int32)
        · rw [if_pos hc13] at hp
          refine e_icmp_ge_f f51_61 hc13 ?_
          refine e_qload_n f51_64 rfl ?_
          refine e_iload f51_65 rfl ?_
          refine e_aload_n f51_67 rfl ?_
          refine e_getR f51_68 (WF.t w 39 (by decide)) rfl (WF.r (q := 40) w 39 5 (by decide)) ?_
          refine e_iload f51_71 rfl ?_
          by_cases hg14 : (v5) < (0 : Int32) ∨ 8 ≤ (v5).toNatClampNeg
          · rw [if_pos hg14] at hp; cases hp
          rw [if_neg hg14] at hp
          refine e_iaload f51_73 (Or.inl (WF.t w 40 (by decide))) (WF.n w 40 (by decide)) hg14 ?_
          obtain ⟨o15, ho16, hp⟩ := bind_some hp
          try dsimp only at hp
          rw [ho16]
          by_cases hg17 : hT (h) (o15) = 20
          rotate_left
          · rw [if_neg hg17] at hp; cases hp
          rw [if_pos hg17] at hp
          by_cases hg18 : (v4) < (0 : Int32) ∨ hN (h) (o15) ≤ (v4).toNatClampNeg
          · rw [if_pos hg18] at hp; cases hp
          rw [if_neg hg18] at hp
          refine e_iastore f51_74 hg17 rfl hg18 ?_
          refine e_iinc (ls2 := [some (.ref (39)), some (.ref (o15)), none, some (.int (a2)), some (.int ((v4) + 1)), some (.int (v5))]) f51_75 (by decide) rfl rfl ?_
          refine ex_weak (ls := [some (.ref (39)), some (va_rf (a0)), none, some (.int (a2)), some (.int ((v4) + 1)), some (.int (v5))]) (le2_ok ⟨Or.inr rfl, Or.inr (congrArg (fun z => some (va_rf z)) ho16), Or.inl rfl, Or.inr rfl, Or.inr rfl, Or.inr rfl, trivial⟩) ?_
          exact p51_j78_ok d F a0 a1 a2 ((p51_L37 F a0 a1 a2 n)) (ih) (hsI (h) (o15) (v4).toNatClampNeg (hI (h) (40) (v5).toNatClampNeg)) (w) ((v4) + 1) (v5) _ hp
        · rw [if_neg hc13] at hp
          refine e_icmp_ge_t f51_61 hc13 ?_
          refine ex_weak (ls := [some (.ref (39)), some (va_rf (a0)), none, some (.int (a2)), some (.int (v4)), some (.int (v5))]) (le2_ok ⟨Or.inr rfl, Or.inr rfl, Or.inl rfl, Or.inr rfl, Or.inr rfl, Or.inr rfl, trivial⟩) ?_
          exact p51_j78_ok d F a0 a1 a2 ((p51_L37 F a0 a1 a2 n)) (ih) (h) (w) (v4) (v5) _ hp
      · rw [if_neg hc12] at hp
        refine e_if_ne_t f51_52 hc12 ?_
        refine ex_weak (ls := [some (.ref (39)), some (va_rf (a0)), none, some (.int (a2)), some (.int (v4)), some (.int (v5))]) (le2_ok ⟨Or.inr rfl, Or.inr rfl, Or.inl rfl, Or.inr rfl, Or.inr rfl, Or.inr rfl, trivial⟩) ?_
        exact p51_j78_ok d F a0 a1 a2 ((p51_L37 F a0 a1 a2 n)) (ih) (h) (w) (v4) (v5) _ hp
    · rw [if_neg hc11] at hp
      refine e_icmp_ge_t f51_43 hc11 ?_
      have hp := Option.some.inj hp
      subst hp
      exact e_return f51_84
set_option maxRecDepth 100000 in
set_option maxHeartbeats 4000000 in
theorem p51_L37_w (F : Nat) (a0 : Option Nat) (a1 : Int32) (a2 : Int32) : ∀ (n : Nat) (h : HS) (w : WF h) (v4 : Int32) (v5 : Int32) (r : HS), p51_L37 F a0 a1 a2 n h v4 v5 = some r → WF r := by
  intro n
  induction n with
  | zero => intro h w v4 v5 r hp; cases hp
  | succ n ih =>
    intro h w v4 v5 r hp
    unfold p51_L37 at hp
    by_cases hc11 : (v5) < ((hI (h) (39) 1) : Int32)
    · rw [if_pos hc11] at hp
      by_cases hc12 : (((a2) >>> ((v5) &&& 31)) &&& (1)) = (0 : Int32)
      · rw [if_pos hc12] at hp
        by_cases hc13 : (v4) < ((hI (h) (39) 1) : Int32)
        · rw [if_pos hc13] at hp
          by_cases hg14 : (v5) < (0 : Int32) ∨ 8 ≤ (v5).toNatClampNeg
          · rw [if_pos hg14] at hp; cases hp
          rw [if_neg hg14] at hp
          obtain ⟨o15, ho16, hp⟩ := bind_some hp
          try dsimp only at hp
          by_cases hg17 : hT (h) (o15) = 20
          rotate_left
          · rw [if_neg hg17] at hp; cases hp
          rw [if_pos hg17] at hp
          by_cases hg18 : (v4) < (0 : Int32) ∨ hN (h) (o15) ≤ (v4).toNatClampNeg
          · rw [if_pos hg18] at hp; cases hp
          rw [if_neg hg18] at hp
          exact p51_j78_w F a0 a1 a2 ((p51_L37 F a0 a1 a2 n)) (ih) (hsI (h) (o15) (v4).toNatClampNeg (hI (h) (40) (v5).toNatClampNeg)) (w) ((v4) + 1) (v5) _ hp
        · rw [if_neg hc13] at hp
          exact p51_j78_w F a0 a1 a2 ((p51_L37 F a0 a1 a2 n)) (ih) (h) (w) (v4) (v5) _ hp
      · rw [if_neg hc12] at hp
        exact p51_j78_w F a0 a1 a2 ((p51_L37 F a0 a1 a2 n)) (ih) (h) (w) (v4) (v5) _ hp
    · rw [if_neg hc11] at hp
      have hp := Option.some.inj hp
      subst hp
      exact (w)
set_option maxRecDepth 100000 in
set_option maxHeartbeats 4000000 in
theorem p51_L3_ok (d : Nat) (F : Nat) (a0 : Option Nat) (a1 : Int32) (a2 : Int32) : ∀ (n : Nat) (h : HS) (w : WF h) (v4 : Int32) (r : HS), p51_L3 F a0 a1 a2 n h v4 = some r → ex (d + 0) 51 (3, [some (.ref (39)), some (va_rf (a0)), some (.int (a1)), some (.int (a2)), some (.int (v4)), none], [], h) = some (none, r) := by
  intro n
  induction n with
  | zero => intro h w v4 r hp; cases hp
  | succ n ih =>
    intro h w v4 r hp
    unfold p51_L3 at hp
    refine e_iload f51_3 rfl ?_
    refine e_iload_n f51_5 rfl ?_
    by_cases hc1 : (v4) < ((a1) : Int32)
    · rw [if_pos hc1] at hp
      refine e_icmp_ge_f f51_6 hc1 ?_
      refine e_qload_n f51_9 rfl ?_
      refine e_iload f51_10 rfl ?_
      refine e_aload_n f51_12 rfl ?_
      refine e_getR f51_13 (WF.t w 39 (by decide)) rfl (WF.r (q := 40) w 39 5 (by decide)) ?_
      refine e_aload_n f51_16 rfl ?_
      refine e_getR f51_17 (WF.t w 39 (by decide)) rfl (WF.r (q := 45) w 39 10 (by decide)) ?_
      refine e_iload f51_20 rfl ?_
      by_cases hg2 : (v4) < (0 : Int32) ∨ 8 ≤ (v4).toNatClampNeg
      · rw [if_pos hg2] at hp; cases hp
      rw [if_neg hg2] at hp
      refine e_iaload f51_22 (Or.inl (WF.t w 45 (by decide))) (WF.n w 45 (by decide)) hg2 ?_
      by_cases hg3 : (hI (h) (45) (v4).toNatClampNeg) < (0 : Int32) ∨ 8 ≤ (hI (h) (45) (v4).toNatClampNeg).toNatClampNeg
      · rw [if_pos hg3] at hp; cases hp
      rw [if_neg hg3] at hp
      refine e_iaload f51_23 (Or.inl (WF.t w 40 (by decide))) (WF.n w 40 (by decide)) hg3 ?_
      obtain ⟨o4, ho5, hp⟩ := bind_some hp
      try dsimp only at hp
      rw [ho5]
      by_cases hg6 : hT (h) (o4) = 20
      rotate_left
      · rw [if_neg hg6] at hp; cases hp
      rw [if_pos hg6] at hp
      by_cases hg7 : (v4) < (0 : Int32) ∨ hN (h) (o4) ≤ (v4).toNatClampNeg
      · rw [if_pos hg7] at hp; cases hp
      rw [if_neg hg7] at hp
      refine e_iastore f51_24 hg6 rfl hg7 ?_
      obtain ⟨h8, e9, hp⟩ := bind_some hp
      try dsimp only at hp
      have e9 := Option.some.inj e9
      have w10 : WF h8 := e9 ▸ w
      rw [e9]
      refine e_iinc (ls2 := [some (.ref (39)), some (.ref (o4)), some (.int (a1)), some (.int (a2)), some (.int ((v4) + 1)), none]) f51_25 (by decide) rfl rfl ?_
      refine e_goto f51_28 ?_
      refine ex_weak (ls := [some (.ref (39)), some (va_rf (a0)), some (.int (a1)), some (.int (a2)), some (.int ((v4) + 1)), none]) (le2_ok ⟨Or.inr rfl, Or.inr (congrArg (fun z => some (va_rf z)) ho5), Or.inr rfl, Or.inr rfl, Or.inr rfl, Or.inl rfl, trivial⟩) ?_
      exact ih (h8) (w10) ((v4) + 1) _ hp
    · rw [if_neg hc1] at hp
      refine e_icmp_ge_t f51_6 hc1 ?_
      refine e_iload_n f51_31 rfl ?_
      refine e_istore (ls2 := [some (.ref (39)), some (va_rf (a0)), some (.int (a1)), some (.int (a2)), some (.int (a1)), none]) f51_32 (Nat.le_of_ble_eq_true rfl) rfl ?_
      refine e_iconst (v := 0) f51_34 (by decide) ?_
      refine e_istore (ls2 := [some (.ref (39)), some (va_rf (a0)), some (.int (a1)), some (.int (a2)), some (.int (a1)), some (.int (0))]) f51_35 (Nat.le_of_ble_eq_true rfl) rfl ?_
      refine ex_weak (ls := [some (.ref (39)), some (va_rf (a0)), none, some (.int (a2)), some (.int (a1)), some (.int (0))]) (le2_ok ⟨Or.inr rfl, Or.inr rfl, Or.inl rfl, Or.inr rfl, Or.inr rfl, Or.inr rfl, trivial⟩) ?_
      exact p51_L37_ok d F a0 a1 a2 F (h) (w) (a1) (0) _ hp
set_option maxRecDepth 100000 in
set_option maxHeartbeats 4000000 in
theorem p51_L3_w (F : Nat) (a0 : Option Nat) (a1 : Int32) (a2 : Int32) : ∀ (n : Nat) (h : HS) (w : WF h) (v4 : Int32) (r : HS), p51_L3 F a0 a1 a2 n h v4 = some r → WF r := by
  intro n
  induction n with
  | zero => intro h w v4 r hp; cases hp
  | succ n ih =>
    intro h w v4 r hp
    unfold p51_L3 at hp
    by_cases hc1 : (v4) < ((a1) : Int32)
    · rw [if_pos hc1] at hp
      by_cases hg2 : (v4) < (0 : Int32) ∨ 8 ≤ (v4).toNatClampNeg
      · rw [if_pos hg2] at hp; cases hp
      rw [if_neg hg2] at hp
      by_cases hg3 : (hI (h) (45) (v4).toNatClampNeg) < (0 : Int32) ∨ 8 ≤ (hI (h) (45) (v4).toNatClampNeg).toNatClampNeg
      · rw [if_pos hg3] at hp; cases hp
      rw [if_neg hg3] at hp
      obtain ⟨o4, ho5, hp⟩ := bind_some hp
      try dsimp only at hp
      by_cases hg6 : hT (h) (o4) = 20
      rotate_left
      · rw [if_neg hg6] at hp; cases hp
      rw [if_pos hg6] at hp
      by_cases hg7 : (v4) < (0 : Int32) ∨ hN (h) (o4) ≤ (v4).toNatClampNeg
      · rw [if_pos hg7] at hp; cases hp
      rw [if_neg hg7] at hp
      obtain ⟨h8, e9, hp⟩ := bind_some hp
      try dsimp only at hp
      have e9 := Option.some.inj e9
      have w10 : WF h8 := e9 ▸ w
      exact ih (h8) (w10) ((v4) + 1) _ hp
    · rw [if_neg hc1] at hp
      exact p51_L37_w F a0 a1 a2 F (h) (w) (a1) (0) _ hp
set_option maxRecDepth 100000 in
set_option maxHeartbeats 4000000 in
theorem p51_ok (d : Nat) (F : Nat) (h : HS) (w : WF h) (a0 : Option Nat) (a1 : Int32) (a2 : Int32) (r : HS) (hp : p51 F h a0 a1 a2 = some r) : ex (d + 0) 51 (ent 51 [.ref (39), va_rf (a0), .int (a1), .int (a2)] h) = some (none, r) := by
  rw [show ent 51 [.ref (39), va_rf (a0), .int (a1), .int (a2)] h = (0, [some (.ref (39)), some (va_rf (a0)), some (.int (a1)), some (.int (a2)), none, none], [], h) from by cases a0 <;> rfl]
  refine ex_weak (ls := [some (.ref (39)), some (va_rf (a0)), some (.int (a1)), some (.int (a2)), none, none]) (le2_ok ⟨Or.inr rfl, Or.inr rfl, Or.inr rfl, Or.inr rfl, Or.inr rfl, Or.inr rfl, trivial⟩) ?_
  unfold p51 at hp
  refine e_iconst (v := 0) f51_0 (by decide) ?_
  refine e_istore (ls2 := [some (.ref (39)), some (va_rf (a0)), some (.int (a1)), some (.int (a2)), some (.int (0)), none]) f51_1 (Nat.le_of_ble_eq_true rfl) rfl ?_
  refine ex_weak (ls := [some (.ref (39)), some (va_rf (a0)), some (.int (a1)), some (.int (a2)), some (.int (0)), none]) (le2_ok ⟨Or.inr rfl, Or.inr rfl, Or.inr rfl, Or.inr rfl, Or.inr rfl, Or.inl rfl, trivial⟩) ?_
  exact p51_L3_ok d F a0 a1 a2 F (h) (w) (0) _ hp
set_option maxRecDepth 100000 in
set_option maxHeartbeats 4000000 in
theorem p51_w (F : Nat) (h : HS) (w : WF h) (a0 : Option Nat) (a1 : Int32) (a2 : Int32) (r : HS) (hp : p51 F h a0 a1 a2 = some r) : WF r := by
  unfold p51 at hp
  exact p51_L3_w F a0 a1 a2 F (h) (w) (0) _ hp
theorem f50_0 : fetch 50 0 = some (.aload_n 0, 0, 0, 0) := rfl
theorem f50_1 : fetch 50 1 = some (.getfield 61, 3, 1, 0) := rfl
theorem f50_4 : fetch 50 4 = some (.iload_n 1, 0, 0, 0) := rfl
theorem f50_5 : fetch 50 5 = some (.isub, 0, 0, 0) := rfl
theorem f50_6 : fetch 50 6 = some (.istore 4, 0, 0, 0) := rfl
theorem f50_8 : fetch 50 8 = some (.iload_n 3, 0, 0, 0) := rfl
theorem f50_9 : fetch 50 9 = some (.aload_n 0, 0, 0, 0) := rfl
theorem f50_10 : fetch 50 10 = some (.getfield 75, 3, 3, 0) := rfl
theorem f50_13 : fetch 50 13 = some (.if_icmp .le 13, 26, 0, 0) := rfl
theorem f50_16 : fetch 50 16 = some (.aload_n 0, 0, 0, 0) := rfl
theorem f50_17 : fetch 50 17 = some (.iload_n 3, 0, 0, 0) := rfl
theorem f50_18 : fetch 50 18 = some (.putfield 75, 3, 3, 0) := rfl
theorem f50_21 : fetch 50 21 = some (.aload_n 0, 0, 0, 0) := rfl
theorem f50_22 : fetch 50 22 = some (.iconst 0, 0, 0, 0) := rfl
theorem f50_23 : fetch 50 23 = some (.putfield 78, 3, 4, 0) := rfl
theorem f50_26 : fetch 50 26 = some (.aload_n 0, 0, 0, 0) := rfl
theorem f50_27 : fetch 50 27 = some (.getfield 78, 3, 4, 0) := rfl
theorem f50_30 : fetch 50 30 = some (.ifCond .ne 80, 110, 0, 0) := rfl
theorem f50_33 : fetch 50 33 = some (.aload_n 0, 0, 0, 0) := rfl
theorem f50_34 : fetch 50 34 = some (.aload_n 0, 0, 0, 0) := rfl
theorem f50_35 : fetch 50 35 = some (.getfield 30, 3, 11, 2) := rfl
theorem f50_38 : fetch 50 38 = some (.iload_n 1, 0, 0, 0) := rfl
theorem f50_39 : fetch 50 39 = some (.iload_n 2, 0, 0, 0) := rfl
theorem f50_40 : fetch 50 40 = some (.invokevirtual 113, 51, 3, 0) := rfl
theorem f50_43 : fetch 50 43 = some (.iload 4, 0, 0, 0) := rfl
theorem f50_45 : fetch 50 45 = some (.iconst 1, 0, 0, 0) := rfl
theorem f50_46 : fetch 50 46 = some (.if_icmp .le 82, 128, 0, 0) := rfl
theorem f50_49 : fetch 50 49 = some (.aload_n 0, 0, 0, 0) := rfl
theorem f50_50 : fetch 50 50 = some (.aload_n 0, 0, 0, 0) := rfl
theorem f50_51 : fetch 50 51 = some (.getfield 33, 3, 12, 2) := rfl
theorem f50_54 : fetch 50 54 = some (.iload_n 1, 0, 0, 0) := rfl
theorem f50_55 : fetch 50 55 = some (.iload_n 2, 0, 0, 0) := rfl
theorem f50_56 : fetch 50 56 = some (.invokevirtual 113, 51, 3, 0) := rfl
theorem f50_59 : fetch 50 59 = some (.aload_n 0, 0, 0, 0) := rfl
theorem f50_60 : fetch 50 60 = some (.getfield 33, 3, 12, 2) := rfl
theorem f50_63 : fetch 50 63 = some (.aload_n 0, 0, 0, 0) := rfl
theorem f50_64 : fetch 50 64 = some (.getfield 61, 3, 1, 0) := rfl
theorem f50_67 : fetch 50 67 = some (.iconst 1, 0, 0, 0) := rfl
theorem f50_68 : fetch 50 68 = some (.isub, 0, 0, 0) := rfl
theorem f50_69 : fetch 50 69 = some (.iaload, 0, 0, 0) := rfl
theorem f50_70 : fetch 50 70 = some (.istore 5, 0, 0, 0) := rfl
theorem f50_72 : fetch 50 72 = some (.aload_n 0, 0, 0, 0) := rfl
theorem f50_73 : fetch 50 73 = some (.getfield 33, 3, 12, 2) := rfl
theorem f50_76 : fetch 50 76 = some (.aload_n 0, 0, 0, 0) := rfl
theorem f50_77 : fetch 50 77 = some (.getfield 61, 3, 1, 0) := rfl
theorem f50_80 : fetch 50 80 = some (.iconst 1, 0, 0, 0) := rfl
theorem f50_81 : fetch 50 81 = some (.isub, 0, 0, 0) := rfl
theorem f50_82 : fetch 50 82 = some (.aload_n 0, 0, 0, 0) := rfl
theorem f50_83 : fetch 50 83 = some (.getfield 33, 3, 12, 2) := rfl
theorem f50_86 : fetch 50 86 = some (.aload_n 0, 0, 0, 0) := rfl
theorem f50_87 : fetch 50 87 = some (.getfield 61, 3, 1, 0) := rfl
theorem f50_90 : fetch 50 90 = some (.iconst 2, 0, 0, 0) := rfl
theorem f50_91 : fetch 50 91 = some (.isub, 0, 0, 0) := rfl
theorem f50_92 : fetch 50 92 = some (.iaload, 0, 0, 0) := rfl
theorem f50_93 : fetch 50 93 = some (.iastore, 0, 0, 0) := rfl
theorem f50_94 : fetch 50 94 = some (.aload_n 0, 0, 0, 0) := rfl
theorem f50_95 : fetch 50 95 = some (.getfield 33, 3, 12, 2) := rfl
theorem f50_98 : fetch 50 98 = some (.aload_n 0, 0, 0, 0) := rfl
theorem f50_99 : fetch 50 99 = some (.getfield 61, 3, 1, 0) := rfl
theorem f50_102 : fetch 50 102 = some (.iconst 2, 0, 0, 0) := rfl
theorem f50_103 : fetch 50 103 = some (.isub, 0, 0, 0) := rfl
theorem f50_104 : fetch 50 104 = some (.iload 5, 0, 0, 0) := rfl
theorem f50_106 : fetch 50 106 = some (.iastore, 0, 0, 0) := rfl
theorem f50_107 : fetch 50 107 = some (.goto 21, 128, 0, 0) := rfl
theorem f50_110 : fetch 50 110 = some (.aload_n 0, 0, 0, 0) := rfl
theorem f50_111 : fetch 50 111 = some (.getfield 78, 3, 4, 0) := rfl
theorem f50_114 : fetch 50 114 = some (.iconst 1, 0, 0, 0) := rfl
theorem f50_115 : fetch 50 115 = some (.if_icmp .ne 13, 128, 0, 0) := rfl
theorem f50_118 : fetch 50 118 = some (.aload_n 0, 0, 0, 0) := rfl
theorem f50_119 : fetch 50 119 = some (.aload_n 0, 0, 0, 0) := rfl
theorem f50_120 : fetch 50 120 = some (.getfield 33, 3, 12, 2) := rfl
theorem f50_123 : fetch 50 123 = some (.iload_n 1, 0, 0, 0) := rfl
theorem f50_124 : fetch 50 124 = some (.iload_n 2, 0, 0, 0) := rfl
theorem f50_125 : fetch 50 125 = some (.invokevirtual 113, 51, 3, 0) := rfl
theorem f50_128 : fetch 50 128 = some (.aload_n 0, 0, 0, 0) := rfl
theorem f50_129 : fetch 50 129 = some (.dup, 0, 0, 0) := rfl
theorem f50_130 : fetch 50 130 = some (.getfield 78, 3, 4, 0) := rfl
theorem f50_133 : fetch 50 133 = some (.getstatic 117, 0, 0, 0) := rfl
theorem f50_136 : fetch 50 136 = some (.iload 4, 0, 0, 0) := rfl
theorem f50_138 : fetch 50 138 = some (.iaload, 0, 0, 0) := rfl
theorem f50_139 : fetch 50 139 = some (.iadd, 0, 0, 0) := rfl
theorem f50_140 : fetch 50 140 = some (.putfield 78, 3, 4, 0) := rfl
theorem f50_143 : fetch 50 143 = some (.return_, 0, 0, 0) := rfl
set_option maxRecDepth 100000 in
set_option maxHeartbeats 4000000 in
theorem p50_j128_ok (d : Nat) (F : Nat) (a0 : Int32) (a1 : Int32) (a2 : Int32) (h : HS) (w : WF h) (v4 : Int32) (r : HS) (hp : p50_j128 F a0 a1 a2 h v4 = some r) : ex (d + 1) 50 (128, [some (.ref (39)), none, none, none, some (.int (v4)), none], [], h) = some (none, r) := by
  unfold p50_j128 at hp
  refine e_aload_n f50_128 rfl ?_
  refine e_dup f50_129 rfl ?_
  refine e_getI f50_130 (WF.t w 39 (by decide)) (by decide) ?_
  refine e_getstatic f50_133 ?_
  refine e_iload f50_136 rfl ?_
  by_cases hg21 : (v4) < (0 : Int32) ∨ hN (h) (0) ≤ (v4).toNatClampNeg
  · rw [if_pos hg21] at hp; cases hp
  rw [if_neg hg21] at hp
  refine e_iaload f50_138 (Or.inr (WF.x w 0 (by decide))) rfl hg21 ?_
  refine e_iadd f50_139 ?_
  refine e_putI f50_140 (WF.t w 39 (by decide)) rfl ?_
  have hp := Option.some.inj hp
  subst hp
  exact e_return f50_143
set_option maxRecDepth 100000 in
set_option maxHeartbeats 4000000 in
theorem p50_j128_w (F : Nat) (a0 : Int32) (a1 : Int32) (a2 : Int32) (h : HS) (w : WF h) (v4 : Int32) (r : HS) (hp : p50_j128 F a0 a1 a2 h v4 = some r) : WF r := by
  unfold p50_j128 at hp
  by_cases hg21 : (v4) < (0 : Int32) ∨ hN (h) (0) ≤ (v4).toNatClampNeg
  · rw [if_pos hg21] at hp; cases hp
  rw [if_neg hg21] at hp
  have hp := Option.some.inj hp
  subst hp
  exact (w)
set_option maxRecDepth 100000 in
set_option maxHeartbeats 4000000 in
theorem p50_j26_ok (d : Nat) (F : Nat) (a0 : Int32) (a1 : Int32) (a2 : Int32) (h : HS) (w : WF h) (v4 : Int32) (r : HS) (hp : p50_j26 F a0 a1 a2 h v4 = some r) : ex (d + 1) 50 (26, [some (.ref (39)), some (.int (a0)), some (.int (a1)), none, some (.int (v4)), none], [], h) = some (none, r) := by
  unfold p50_j26 at hp
  refine e_aload_n f50_26 rfl ?_
  refine e_getI f50_27 (WF.t w 39 (by decide)) (by decide) ?_
  by_cases hc2 : (hI (h) (39) 4) = (0 : Int32)
  · rw [if_pos hc2] at hp
    refine e_if_ne_f f50_30 hc2 ?_
    refine e_aload_n f50_33 rfl ?_
    refine e_aload_n f50_34 rfl ?_
    refine e_getR f50_35 (WF.t w 39 (by decide)) rfl (WF.r (q := 46) w 39 11 (by decide)) ?_
    refine e_iload_n f50_38 rfl ?_
    refine e_iload_n f50_39 rfl ?_
    obtain ⟨r3, hr4, hp⟩ := bind_some hp
    try dsimp only at hp
    refine e_callV (st := []) (o := 39) (as := [.ref (46), .int (a0), .int (a1)]) f50_40 (by decide) rfl rfl (Nat.le_of_ble_eq_true rfl) (WF.t w 39 (by decide)) (Nat.le_of_ble_eq_true rfl) (p51_ok d F (h) w (some (46)) (a0) (a1) r3 hr4) ?_
    show ex _ 50 (43, [some (.ref (39)), some (.int (a0)), some (.int (a1)), none, some (.int (v4)), none], [], r3) = _
    refine e_iload f50_43 rfl ?_
    refine e_iconst (v := 1) f50_45 (by decide) ?_
    by_cases hc5 : (1) < ((v4) : Int32)
    · rw [if_pos hc5] at hp
      refine e_icmp_le_f f50_46 hc5 ?_
      refine e_aload_n f50_49 rfl ?_
      refine e_aload_n f50_50 rfl ?_
      refine e_getR f50_51 (WF.t (p51_w F (h) w (some (46)) (a0) (a1)  r3 hr4) 39 (by decide)) rfl (WF.r (q := 47) (p51_w F (h) w (some (46)) (a0) (a1)  r3 hr4) 39 12 (by decide)) ?_
      refine e_iload_n f50_54 rfl ?_
      refine e_iload_n f50_55 rfl ?_
      obtain ⟨r6, hr7, hp⟩ := bind_some hp
      try dsimp only at hp
      refine e_callV (st := []) (o := 39) (as := [.ref (47), .int (a0), .int (a1)]) f50_56 (by decide) rfl rfl (Nat.le_of_ble_eq_true rfl) (WF.t (p51_w F (h) w (some (46)) (a0) (a1)  r3 hr4) 39 (by decide)) (Nat.le_of_ble_eq_true rfl) (p51_ok d F (r3) (p51_w F (h) w (some (46)) (a0) (a1)  r3 hr4) (some (47)) (a0) (a1) r6 hr7) ?_
      show ex _ 50 (59, [some (.ref (39)), some (.int (a0)), some (.int (a1)), none, some (.int (v4)), none], [], r6) = _
      refine e_aload_n f50_59 rfl ?_
      refine e_getR f50_60 (WF.t (p51_w F (r3) (p51_w F (h) w (some (46)) (a0) (a1)  r3 hr4) (some (47)) (a0) (a1)  r6 hr7) 39 (by decide)) rfl (WF.r (q := 47) (p51_w F (r3) (p51_w F (h) w (some (46)) (a0) (a1)  r3 hr4) (some (47)) (a0) (a1)  r6 hr7) 39 12 (by decide)) ?_
      refine e_aload_n f50_63 rfl ?_
      refine e_getI f50_64 (WF.t (p51_w F (r3) (p51_w F (h) w (some (46)) (a0) (a1)  r3 hr4) (some (47)) (a0) (a1)  r6 hr7) 39 (by decide)) (by decide) ?_
      refine e_iconst (v := 1) f50_67 (by decide) ?_
      refine e_isub f50_68 ?_
      by_cases hg8 : ((hI (r6) (39) 1) - (1)) < (0 : Int32) ∨ 8 ≤ ((hI (r6) (39) 1) - (1)).toNatClampNeg
      · rw [if_pos hg8] at hp; cases hp
      rw [if_neg hg8] at hp
      refine e_iaload f50_69 (Or.inl (WF.t (p51_w F (r3) (p51_w F (h) w (some (46)) (a0) (a1)  r3 hr4) (some (47)) (a0) (a1)  r6 hr7) 47 (by decide))) (WF.n (p51_w F (r3) (p51_w F (h) w (some (46)) (a0) (a1)  r3 hr4) (some (47)) (a0) (a1)  r6 hr7) 47 (by decide)) hg8 ?_
      refine e_istore (ls2 := [some (.ref (39)), some (.int (a0)), some (.int (a1)), none, some (.int (v4)), some (.int (hI (r6) (47) ((hI (r6) (39) 1) - (1)).toNatClampNeg))]) f50_70 (Nat.le_of_ble_eq_true rfl) rfl ?_
      refine e_aload_n f50_72 rfl ?_
      refine e_getR f50_73 (WF.t (p51_w F (r3) (p51_w F (h) w (some (46)) (a0) (a1)  r3 hr4) (some (47)) (a0) (a1)  r6 hr7) 39 (by decide)) rfl (WF.r (q := 47) (p51_w F (r3) (p51_w F (h) w (some (46)) (a0) (a1)  r3 hr4) (some (47)) (a0) (a1)  r6 hr7) 39 12 (by decide)) ?_
      refine e_aload_n f50_76 rfl ?_
      refine e_getI f50_77 (WF.t (p51_w F (r3) (p51_w F (h) w (some (46)) (a0) (a1)  r3 hr4) (some (47)) (a0) (a1)  r6 hr7) 39 (by decide)) (by decide) ?_
      refine e_iconst (v := 1) f50_80 (by decide) ?_
      refine e_isub f50_81 ?_
      refine e_aload_n f50_82 rfl ?_
      refine e_getR f50_83 (WF.t (p51_w F (r3) (p51_w F (h) w (some (46)) (a0) (a1)  r3 hr4) (some (47)) (a0) (a1)  r6 hr7) 39 (by decide)) rfl (WF.r (q := 47) (p51_w F (r3) (p51_w F (h) w (some (46)) (a0) (a1)  r3 hr4) (some (47)) (a0) (a1)  r6 hr7) 39 12 (by decide)) ?_
      refine e_aload_n f50_86 rfl ?_
      refine e_getI f50_87 (WF.t (p51_w F (r3) (p51_w F (h) w (some (46)) (a0) (a1)  r3 hr4) (some (47)) (a0) (a1)  r6 hr7) 39 (by decide)) (by decide) ?_
      refine e_iconst (v := 2) f50_90 (by decide) ?_
      refine e_isub f50_91 ?_
      by_cases hg9 : ((hI (r6) (39) 1) - (2)) < (0 : Int32) ∨ 8 ≤ ((hI (r6) (39) 1) - (2)).toNatClampNeg
      · rw [if_pos hg9] at hp; cases hp
      rw [if_neg hg9] at hp
      refine e_iaload f50_92 (Or.inl (WF.t (p51_w F (r3) (p51_w F (h) w (some (46)) (a0) (a1)  r3 hr4) (some (47)) (a0) (a1)  r6 hr7) 47 (by decide))) (WF.n (p51_w F (r3) (p51_w F (h) w (some (46)) (a0) (a1)  r3 hr4) (some (47)) (a0) (a1)  r6 hr7) 47 (by decide)) hg9 ?_
      by_cases hg10 : ((hI (r6) (39) 1) - (1)) < (0 : Int32) ∨ 8 ≤ ((hI (r6) (39) 1) - (1)).toNatClampNeg
      · rw [if_pos hg10] at hp; cases hp
      rw [if_neg hg10] at hp
      refine e_iastore f50_93 (WF.t (p51_w F (r3) (p51_w F (h) w (some (46)) (a0) (a1)  r3 hr4) (some (47)) (a0) (a1)  r6 hr7) 47 (by decide)) (WF.n (p51_w F (r3) (p51_w F (h) w (some (46)) (a0) (a1)  r3 hr4) (some (47)) (a0) (a1)  r6 hr7) 47 (by decide)) hg10 ?_
      obtain ⟨h11, e12, hp⟩ := bind_some hp
      try dsimp only at hp
      have e12 := Option.some.inj e12
      have w13 : WF h11 := e12 ▸ (p51_w F (r3) (p51_w F (h) w (some (46)) (a0) (a1)  r3 hr4) (some (47)) (a0) (a1)  r6 hr7)
      rw [e12]
      refine e_aload_n f50_94 rfl ?_
      refine e_getR f50_95 (WF.t w13 39 (by decide)) rfl (WF.r (q := 47) w13 39 12 (by decide)) ?_
      refine e_aload_n f50_98 rfl ?_
      refine e_getI f50_99 (WF.t w13 39 (by decide)) (by decide) ?_
      refine e_iconst (v := 2) f50_102 (by decide) ?_
      refine e_isub f50_103 ?_
      refine e_iload f50_104 rfl ?_
      by_cases hg14 : ((hI (h11) (39) 1) - (2)) < (0 : Int32) ∨ 8 ≤ ((hI (h11) (39) 1) - (2)).toNatClampNeg
      · rw [if_pos hg14] at hp; cases hp
      rw [if_neg hg14] at hp
      refine e_iastore f50_106 (WF.t w13 47 (by decide)) (WF.n w13 47 (by decide)) hg14 ?_
      obtain ⟨h15, e16, hp⟩ := bind_some hp
      try dsimp only at hp
      have e16 := Option.some.inj e16
      have w17 : WF h15 := e16 ▸ w13
      rw [e16]
      refine e_goto f50_107 ?_
      refine ex_weak (ls := [some (.ref (39)), none, none, none, some (.int (v4)), none]) (le2_ok ⟨Or.inr rfl, Or.inl rfl, Or.inl rfl, Or.inl rfl, Or.inr rfl, Or.inl rfl, trivial⟩) ?_
      exact p50_j128_ok d F a0 a1 a2 (h15) (w17) (v4) _ hp
    · rw [if_neg hc5] at hp
      refine e_icmp_le_t f50_46 hc5 ?_
      refine ex_weak (ls := [some (.ref (39)), none, none, none, some (.int (v4)), none]) (le2_ok ⟨Or.inr rfl, Or.inl rfl, Or.inl rfl, Or.inl rfl, Or.inr rfl, Or.inl rfl, trivial⟩) ?_
      exact p50_j128_ok d F a0 a1 a2 (r3) ((p51_w F (h) w (some (46)) (a0) (a1)  r3 hr4)) (v4) _ hp
  · rw [if_neg hc2] at hp
    refine e_if_ne_t f50_30 hc2 ?_
    refine e_aload_n f50_110 rfl ?_
    refine e_getI f50_111 (WF.t w 39 (by decide)) (by decide) ?_
    refine e_iconst (v := 1) f50_114 (by decide) ?_
    by_cases hc18 : (hI (h) (39) 4) = ((1) : Int32)
    · rw [if_pos hc18] at hp
      refine e_icmp_ne_f f50_115 hc18 ?_
      refine e_aload_n f50_118 rfl ?_
      refine e_aload_n f50_119 rfl ?_
      refine e_getR f50_120 (WF.t w 39 (by decide)) rfl (WF.r (q := 47) w 39 12 (by decide)) ?_
      refine e_iload_n f50_123 rfl ?_
      refine e_iload_n f50_124 rfl ?_
      obtain ⟨r19, hr20, hp⟩ := bind_some hp
      try dsimp only at hp
      refine e_callV (st := []) (o := 39) (as := [.ref (47), .int (a0), .int (a1)]) f50_125 (by decide) rfl rfl (Nat.le_of_ble_eq_true rfl) (WF.t w 39 (by decide)) (Nat.le_of_ble_eq_true rfl) (p51_ok d F (h) w (some (47)) (a0) (a1) r19 hr20) ?_
      show ex _ 50 (128, [some (.ref (39)), some (.int (a0)), some (.int (a1)), none, some (.int (v4)), none], [], r19) = _
      refine ex_weak (ls := [some (.ref (39)), none, none, none, some (.int (v4)), none]) (le2_ok ⟨Or.inr rfl, Or.inl rfl, Or.inl rfl, Or.inl rfl, Or.inr rfl, Or.inl rfl, trivial⟩) ?_
      exact p50_j128_ok d F a0 a1 a2 (r19) ((p51_w F (h) w (some (47)) (a0) (a1)  r19 hr20)) (v4) _ hp
    · rw [if_neg hc18] at hp
      refine e_icmp_ne_t f50_115 hc18 ?_
      refine ex_weak (ls := [some (.ref (39)), none, none, none, some (.int (v4)), none]) (le2_ok ⟨Or.inr rfl, Or.inl rfl, Or.inl rfl, Or.inl rfl, Or.inr rfl, Or.inl rfl, trivial⟩) ?_
      exact p50_j128_ok d F a0 a1 a2 (h) (w) (v4) _ hp
set_option maxRecDepth 100000 in
set_option maxHeartbeats 4000000 in
theorem p50_j26_w (F : Nat) (a0 : Int32) (a1 : Int32) (a2 : Int32) (h : HS) (w : WF h) (v4 : Int32) (r : HS) (hp : p50_j26 F a0 a1 a2 h v4 = some r) : WF r := by
  unfold p50_j26 at hp
  by_cases hc2 : (hI (h) (39) 4) = (0 : Int32)
  · rw [if_pos hc2] at hp
    obtain ⟨r3, hr4, hp⟩ := bind_some hp
    try dsimp only at hp
    by_cases hc5 : (1) < ((v4) : Int32)
    · rw [if_pos hc5] at hp
      obtain ⟨r6, hr7, hp⟩ := bind_some hp
      try dsimp only at hp
      by_cases hg8 : ((hI (r6) (39) 1) - (1)) < (0 : Int32) ∨ 8 ≤ ((hI (r6) (39) 1) - (1)).toNatClampNeg
      · rw [if_pos hg8] at hp; cases hp
      rw [if_neg hg8] at hp
      by_cases hg9 : ((hI (r6) (39) 1) - (2)) < (0 : Int32) ∨ 8 ≤ ((hI (r6) (39) 1) - (2)).toNatClampNeg
      · rw [if_pos hg9] at hp; cases hp
      rw [if_neg hg9] at hp
      by_cases hg10 : ((hI (r6) (39) 1) - (1)) < (0 : Int32) ∨ 8 ≤ ((hI (r6) (39) 1) - (1)).toNatClampNeg
      · rw [if_pos hg10] at hp; cases hp
      rw [if_neg hg10] at hp
      obtain ⟨h11, e12, hp⟩ := bind_some hp
      try dsimp only at hp
      have e12 := Option.some.inj e12
      have w13 : WF h11 := e12 ▸ (p51_w F (r3) (p51_w F (h) w (some (46)) (a0) (a1)  r3 hr4) (some (47)) (a0) (a1)  r6 hr7)
      by_cases hg14 : ((hI (h11) (39) 1) - (2)) < (0 : Int32) ∨ 8 ≤ ((hI (h11) (39) 1) - (2)).toNatClampNeg
      · rw [if_pos hg14] at hp; cases hp
      rw [if_neg hg14] at hp
      obtain ⟨h15, e16, hp⟩ := bind_some hp
      try dsimp only at hp
      have e16 := Option.some.inj e16
      have w17 : WF h15 := e16 ▸ w13
      exact p50_j128_w F a0 a1 a2 (h15) (w17) (v4) _ hp
    · rw [if_neg hc5] at hp
      exact p50_j128_w F a0 a1 a2 (r3) ((p51_w F (h) w (some (46)) (a0) (a1)  r3 hr4)) (v4) _ hp
  · rw [if_neg hc2] at hp
    by_cases hc18 : (hI (h) (39) 4) = ((1) : Int32)
    · rw [if_pos hc18] at hp
      obtain ⟨r19, hr20, hp⟩ := bind_some hp
      try dsimp only at hp
      exact p50_j128_w F a0 a1 a2 (r19) ((p51_w F (h) w (some (47)) (a0) (a1)  r19 hr20)) (v4) _ hp
    · rw [if_neg hc18] at hp
      exact p50_j128_w F a0 a1 a2 (h) (w) (v4) _ hp
set_option maxRecDepth 100000 in
set_option maxHeartbeats 4000000 in
theorem p50_ok (d : Nat) (F : Nat) (h : HS) (w : WF h) (a0 : Int32) (a1 : Int32) (a2 : Int32) (r : HS) (hp : p50 F h a0 a1 a2 = some r) : ex (d + 1) 50 (ent 50 [.ref (39), .int (a0), .int (a1), .int (a2)] h) = some (none, r) := by
  rw [show ent 50 [.ref (39), .int (a0), .int (a1), .int (a2)] h = (0, [some (.ref (39)), some (.int (a0)), some (.int (a1)), some (.int (a2)), none, none], [], h) from by  rfl]
  refine ex_weak (ls := [some (.ref (39)), some (.int (a0)), some (.int (a1)), some (.int (a2)), none, none]) (le2_ok ⟨Or.inr rfl, Or.inr rfl, Or.inr rfl, Or.inr rfl, Or.inr rfl, Or.inr rfl, trivial⟩) ?_
  unfold p50 at hp
  refine e_aload_n f50_0 rfl ?_
  refine e_getI f50_1 (WF.t w 39 (by decide)) (by decide) ?_
  refine e_iload_n f50_4 rfl ?_
  refine e_isub f50_5 ?_
  refine e_istore (ls2 := [some (.ref (39)), some (.int (a0)), some (.int (a1)), some (.int (a2)), some (.int ((hI (h) (39) 1) - (a0))), none]) f50_6 (Nat.le_of_ble_eq_true rfl) rfl ?_
  refine e_iload_n f50_8 rfl ?_
  refine e_aload_n f50_9 rfl ?_
  refine e_getI f50_10 (WF.t w 39 (by decide)) (by decide) ?_
  by_cases hc1 : (hI (h) (39) 3) < ((a2) : Int32)
  · rw [if_pos hc1] at hp
    refine e_icmp_le_f f50_13 hc1 ?_
    refine e_aload_n f50_16 rfl ?_
    refine e_iload_n f50_17 rfl ?_
    refine e_putI f50_18 (WF.t w 39 (by decide)) rfl ?_
    refine e_aload_n f50_21 rfl ?_
    refine e_iconst (v := 0) f50_22 (by decide) ?_
    refine e_putI f50_23 (WF.t w 39 (by decide)) rfl ?_
    refine ex_weak (ls := [some (.ref (39)), some (.int (a0)), some (.int (a1)), none, some (.int ((hI (h) (39) 1) - (a0))), none]) (le2_ok ⟨Or.inr rfl, Or.inr rfl, Or.inr rfl, Or.inl rfl, Or.inr rfl, Or.inl rfl, trivial⟩) ?_
    exact p50_j26_ok d F a0 a1 a2 (hsI (hsI (h) (39) 3 (a2)) (39) 4 (0)) (w) ((hI (h) (39) 1) - (a0)) _ hp
  · rw [if_neg hc1] at hp
    refine e_icmp_le_t f50_13 hc1 ?_
    refine ex_weak (ls := [some (.ref (39)), some (.int (a0)), some (.int (a1)), none, some (.int ((hI (h) (39) 1) - (a0))), none]) (le2_ok ⟨Or.inr rfl, Or.inr rfl, Or.inr rfl, Or.inl rfl, Or.inr rfl, Or.inl rfl, trivial⟩) ?_
    exact p50_j26_ok d F a0 a1 a2 (h) (w) ((hI (h) (39) 1) - (a0)) _ hp
set_option maxRecDepth 100000 in
set_option maxHeartbeats 4000000 in
theorem p50_w (F : Nat) (h : HS) (w : WF h) (a0 : Int32) (a1 : Int32) (a2 : Int32) (r : HS) (hp : p50 F h a0 a1 a2 = some r) : WF r := by
  unfold p50 at hp
  by_cases hc1 : (hI (h) (39) 3) < ((a2) : Int32)
  · rw [if_pos hc1] at hp
    exact p50_j26_w F a0 a1 a2 (hsI (hsI (h) (39) 3 (a2)) (39) 4 (0)) (w) ((hI (h) (39) 1) - (a0)) _ hp
  · rw [if_neg hc1] at hp
    exact p50_j26_w F a0 a1 a2 (h) (w) ((hI (h) (39) 1) - (a0)) _ hp
theorem f48_0 : fetch 48 0 = some (.iload_n 3, 0, 0, 0) := rfl
theorem f48_1 : fetch 48 1 = some (.iload 4, 0, 0, 0) := rfl
theorem f48_3 : fetch 48 3 = some (.aload_n 0, 0, 0, 0) := rfl
theorem f48_4 : fetch 48 4 = some (.getfield 24, 3, 9, 2) := rfl
theorem f48_7 : fetch 48 7 = some (.iload_n 1, 0, 0, 0) := rfl
theorem f48_8 : fetch 48 8 = some (.iaload, 0, 0, 0) := rfl
theorem f48_9 : fetch 48 9 = some (.invokestatic 100, 0, 2, 10) := rfl
theorem f48_12 : fetch 48 12 = some (.iadd, 0, 0, 0) := rfl
theorem f48_13 : fetch 48 13 = some (.aload_n 0, 0, 0, 0) := rfl
theorem f48_14 : fetch 48 14 = some (.getfield 75, 3, 3, 0) := rfl
theorem f48_17 : fetch 48 17 = some (.if_icmp .ge 4, 21, 0, 0) := rfl
theorem f48_20 : fetch 48 20 = some (.return_, 0, 0, 0) := rfl
theorem f48_21 : fetch 48 21 = some (.iload_n 1, 0, 0, 0) := rfl
theorem f48_22 : fetch 48 22 = some (.aload_n 0, 0, 0, 0) := rfl
theorem f48_23 : fetch 48 23 = some (.getfield 61, 3, 1, 0) := rfl
theorem f48_26 : fetch 48 26 = some (.if_icmp .ge 8, 34, 0, 0) := rfl
theorem f48_29 : fetch 48 29 = some (.iload 4, 0, 0, 0) := rfl
theorem f48_31 : fetch 48 31 = some (.ifCond .ne 11, 42, 0, 0) := rfl
theorem f48_34 : fetch 48 34 = some (.aload_n 0, 0, 0, 0) := rfl
theorem f48_35 : fetch 48 35 = some (.iload_n 1, 0, 0, 0) := rfl
theorem f48_36 : fetch 48 36 = some (.iload_n 2, 0, 0, 0) := rfl
theorem f48_37 : fetch 48 37 = some (.iload_n 3, 0, 0, 0) := rfl
theorem f48_38 : fetch 48 38 = some (.invokevirtual 106, 50, 3, 0) := rfl
theorem f48_41 : fetch 48 41 = some (.return_, 0, 0, 0) := rfl
theorem f48_42 : fetch 48 42 = some (.iconst 0, 0, 0, 0) := rfl
theorem f48_43 : fetch 48 43 = some (.istore 5, 0, 0, 0) := rfl
theorem f48_45 : fetch 48 45 = some (.iload 5, 0, 0, 0) := rfl
theorem f48_47 : fetch 48 47 = some (.aload_n 0, 0, 0, 0) := rfl
theorem f48_48 : fetch 48 48 = some (.getfield 61, 3, 1, 0) := rfl
theorem f48_51 : fetch 48 51 = some (.if_icmp .ge 58, 109, 0, 0) := rfl
theorem f48_54 : fetch 48 54 = some (.iload_n 2, 0, 0, 0) := rfl
theorem f48_55 : fetch 48 55 = some (.iload 5, 0, 0, 0) := rfl
theorem f48_57 : fetch 48 57 = some (.ishr, 0, 0, 0) := rfl
theorem f48_58 : fetch 48 58 = some (.iconst 1, 0, 0, 0) := rfl
theorem f48_59 : fetch 48 59 = some (.iand, 0, 0, 0) := rfl
theorem f48_60 : fetch 48 60 = some (.ifCond .ne 43, 103, 0, 0) := rfl
theorem f48_63 : fetch 48 63 = some (.aload_n 0, 0, 0, 0) := rfl
theorem f48_64 : fetch 48 64 = some (.getfield 27, 3, 10, 2) := rfl
theorem f48_67 : fetch 48 67 = some (.iload_n 1, 0, 0, 0) := rfl
theorem f48_68 : fetch 48 68 = some (.iload 5, 0, 0, 0) := rfl
theorem f48_70 : fetch 48 70 = some (.iastore, 0, 0, 0) := rfl
theorem f48_71 : fetch 48 71 = some (.aload_n 0, 0, 0, 0) := rfl
theorem f48_72 : fetch 48 72 = some (.iload_n 1, 0, 0, 0) := rfl
theorem f48_73 : fetch 48 73 = some (.iconst 1, 0, 0, 0) := rfl
theorem f48_74 : fetch 48 74 = some (.iadd, 0, 0, 0) := rfl
theorem f48_75 : fetch 48 75 = some (.iload_n 2, 0, 0, 0) := rfl
theorem f48_76 : fetch 48 76 = some (.iconst 1, 0, 0, 0) := rfl
theorem f48_77 : fetch 48 77 = some (.iload 5, 0, 0, 0) := rfl
theorem f48_79 : fetch 48 79 = some (.ishl, 0, 0, 0) := rfl
theorem f48_80 : fetch 48 80 = some (.ior, 0, 0, 0) := rfl
theorem f48_81 : fetch 48 81 = some (.iload_n 3, 0, 0, 0) := rfl
theorem f48_82 : fetch 48 82 = some (.aload_n 0, 0, 0, 0) := rfl
theorem f48_83 : fetch 48 83 = some (.iload_n 1, 0, 0, 0) := rfl
theorem f48_84 : fetch 48 84 = some (.iload 5, 0, 0, 0) := rfl
theorem f48_86 : fetch 48 86 = some (.invokevirtual 110, 49, 2, 0) := rfl
theorem f48_89 : fetch 48 89 = some (.iadd, 0, 0, 0) := rfl
theorem f48_90 : fetch 48 90 = some (.iload 4, 0, 0, 0) := rfl
theorem f48_92 : fetch 48 92 = some (.aload_n 0, 0, 0, 0) := rfl
theorem f48_93 : fetch 48 93 = some (.getfield 21, 3, 8, 2) := rfl
theorem f48_96 : fetch 48 96 = some (.iload 5, 0, 0, 0) := rfl
theorem f48_98 : fetch 48 98 = some (.iaload, 0, 0, 0) := rfl
theorem f48_99 : fetch 48 99 = some (.isub, 0, 0, 0) := rfl
theorem f48_100 : fetch 48 100 = some (.invokevirtual 81, 48, 4, 0) := rfl
theorem f48_103 : fetch 48 103 = some (.iinc 5 1, 0, 0, 0) := rfl
theorem f48_106 : fetch 48 106 = some (.goto (-61), 45, 0, 0) := rfl
theorem f48_109 : fetch 48 109 = some (.return_, 0, 0, 0) := rfl
set_option maxRecDepth 100000 in
set_option maxHeartbeats 4000000 in
theorem p48_j103_ok (d : Nat) (F : Nat) (R48 : HS → Int32 → Int32 → Int32 → Int32 → Option (HS)) (a0 : Int32) (a1 : Int32) (a2 : Int32) (a3 : Int32) (K45 : HS → Int32 → Option (HS)) (hR48 : ∀ (h : HS) (w : WF h) (a0 : Int32) (a1 : Int32) (a2 : Int32) (a3 : Int32) (r : HS), R48 h a0 a1 a2 a3 = some r → ex (d + 1) 48 (ent 48 [.ref (39), .int (a0), .int (a1), .int (a2), .int (a3)] h) = some (none, r)) (hW48 : ∀ (h : HS) (w : WF h) (a0 : Int32) (a1 : Int32) (a2 : Int32) (a3 : Int32) (r : HS), R48 h a0 a1 a2 a3 = some r → WF r) (hK45 : ∀ (h : HS) (w : WF h) (u5 : Int32) (r : HS), K45 h u5 = some r → ex (d + 2) 48 (45, [some (.ref (39)), some (.int (a0)), some (.int (a1)), some (.int (a2)), some (.int (a3)), some (.int (u5))], [], h) = some (none, r)) (h : HS) (w : WF h) (v5 : Int32) (r : HS) (hp : p48_j103 F R48 a0 a1 a2 a3 K45 h v5 = some r) : ex (d + 2) 48 (103, [some (.ref (39)), some (.int (a0)), some (.int (a1)), some (.int (a2)), some (.int (a3)), some (.int (v5))], [], h) = some (none, r) := by
  unfold p48_j103 at hp
  refine e_iinc (ls2 := [some (.ref (39)), some (.int (a0)), some (.int (a1)), some (.int (a2)), some (.int (a3)), some (.int ((v5) + 1))]) f48_103 (by decide) rfl rfl ?_
  refine e_goto f48_106 ?_
  refine ex_weak (ls := [some (.ref (39)), some (.int (a0)), some (.int (a1)), some (.int (a2)), some (.int (a3)), some (.int ((v5) + 1))]) (le2_ok ⟨Or.inr rfl, Or.inr rfl, Or.inr rfl, Or.inr rfl, Or.inr rfl, Or.inr rfl, trivial⟩) ?_
  exact hK45 (h) (w) ((v5) + 1) _ hp
set_option maxRecDepth 100000 in
set_option maxHeartbeats 4000000 in
theorem p48_j103_w (F : Nat) (R48 : HS → Int32 → Int32 → Int32 → Int32 → Option (HS)) (a0 : Int32) (a1 : Int32) (a2 : Int32) (a3 : Int32) (K45 : HS → Int32 → Option (HS)) (hW48 : ∀ (h : HS) (w : WF h) (a0 : Int32) (a1 : Int32) (a2 : Int32) (a3 : Int32) (r : HS), R48 h a0 a1 a2 a3 = some r → WF r) (hK45 : ∀ (h : HS) (w : WF h) (u5 : Int32) (r : HS), K45 h u5 = some r → WF r) (h : HS) (w : WF h) (v5 : Int32) (r : HS) (hp : p48_j103 F R48 a0 a1 a2 a3 K45 h v5 = some r) : WF r := by
  unfold p48_j103 at hp
  exact hK45 (h) (w) ((v5) + 1) _ hp
set_option maxRecDepth 100000 in
set_option maxHeartbeats 4000000 in
theorem p48_j34_ok (d : Nat) (F : Nat) (R48 : HS → Int32 → Int32 → Int32 → Int32 → Option (HS)) (a0 : Int32) (a1 : Int32) (a2 : Int32) (a3 : Int32) (hR48 : ∀ (h : HS) (w : WF h) (a0 : Int32) (a1 : Int32) (a2 : Int32) (a3 : Int32) (r : HS), R48 h a0 a1 a2 a3 = some r → ex (d + 1) 48 (ent 48 [.ref (39), .int (a0), .int (a1), .int (a2), .int (a3)] h) = some (none, r)) (hW48 : ∀ (h : HS) (w : WF h) (a0 : Int32) (a1 : Int32) (a2 : Int32) (a3 : Int32) (r : HS), R48 h a0 a1 a2 a3 = some r → WF r) (h : HS) (w : WF h) (r : HS) (hp : p48_j34 F R48 a0 a1 a2 a3 h = some r) : ex (d + 2) 48 (34, [some (.ref (39)), some (.int (a0)), some (.int (a1)), some (.int (a2)), none, none], [], h) = some (none, r) := by
  unfold p48_j34 at hp
  refine e_aload_n f48_34 rfl ?_
  refine e_iload_n f48_35 rfl ?_
  refine e_iload_n f48_36 rfl ?_
  refine e_iload_n f48_37 rfl ?_
  obtain ⟨r5, hr6, hp⟩ := bind_some hp
  try dsimp only at hp
  refine e_callV (st := []) (o := 39) (as := [.int (a0), .int (a1), .int (a2)]) f48_38 (by decide) rfl rfl (Nat.le_of_ble_eq_true rfl) (WF.t w 39 (by decide)) (Nat.le_of_ble_eq_true rfl) (p50_ok d F (h) w (a0) (a1) (a2) r5 hr6) ?_
  show ex _ 48 (41, [some (.ref (39)), some (.int (a0)), some (.int (a1)), some (.int (a2)), none, none], [], r5) = _
  have hp := Option.some.inj hp
  subst hp
  exact e_return f48_41
set_option maxRecDepth 100000 in
set_option maxHeartbeats 4000000 in
theorem p48_j34_w (F : Nat) (R48 : HS → Int32 → Int32 → Int32 → Int32 → Option (HS)) (a0 : Int32) (a1 : Int32) (a2 : Int32) (a3 : Int32) (hW48 : ∀ (h : HS) (w : WF h) (a0 : Int32) (a1 : Int32) (a2 : Int32) (a3 : Int32) (r : HS), R48 h a0 a1 a2 a3 = some r → WF r) (h : HS) (w : WF h) (r : HS) (hp : p48_j34 F R48 a0 a1 a2 a3 h = some r) : WF r := by
  unfold p48_j34 at hp
  obtain ⟨r5, hr6, hp⟩ := bind_some hp
  try dsimp only at hp
  have hp := Option.some.inj hp
  subst hp
  exact ((p50_w F (h) w (a0) (a1) (a2)  r5 hr6))
set_option maxRecDepth 100000 in
set_option maxHeartbeats 4000000 in
theorem p48_L45_ok (d : Nat) (F : Nat) (R48 : HS → Int32 → Int32 → Int32 → Int32 → Option (HS)) (a0 : Int32) (a1 : Int32) (a2 : Int32) (a3 : Int32) (hR48 : ∀ (h : HS) (w : WF h) (a0 : Int32) (a1 : Int32) (a2 : Int32) (a3 : Int32) (r : HS), R48 h a0 a1 a2 a3 = some r → ex (d + 1) 48 (ent 48 [.ref (39), .int (a0), .int (a1), .int (a2), .int (a3)] h) = some (none, r)) (hW48 : ∀ (h : HS) (w : WF h) (a0 : Int32) (a1 : Int32) (a2 : Int32) (a3 : Int32) (r : HS), R48 h a0 a1 a2 a3 = some r → WF r) : ∀ (n : Nat) (h : HS) (w : WF h) (v5 : Int32) (r : HS), p48_L45 F R48 a0 a1 a2 a3 n h v5 = some r → ex (d + 2) 48 (45, [some (.ref (39)), some (.int (a0)), some (.int (a1)), some (.int (a2)), some (.int (a3)), some (.int (v5))], [], h) = some (none, r) := by
  intro n
  induction n with
  | zero => intro h w v5 r hp; cases hp
  | succ n ih =>
    intro h w v5 r hp
    unfold p48_L45 at hp
    refine e_iload f48_45 rfl ?_
    refine e_aload_n f48_47 rfl ?_
    refine e_getI f48_48 (WF.t w 39 (by decide)) (by decide) ?_
    by_cases hc7 : (v5) < ((hI (h) (39) 1) : Int32)
    · rw [if_pos hc7] at hp
      refine e_icmp_ge_f f48_51 hc7 ?_
      refine e_iload_n f48_54 rfl ?_
      refine e_iload f48_55 rfl ?_
      refine e_ishr f48_57 ?_
      refine e_iconst (v := 1) f48_58 (by decide) ?_
      refine e_iand f48_59 ?_
      by_cases hc8 : (((a1) >>> ((v5) &&& 31)) &&& (1)) = (0 : Int32)
      · rw [if_pos hc8] at hp
        refine e_if_ne_f f48_60 hc8 ?_
        refine e_aload_n f48_63 rfl ?_
        refine e_getR f48_64 (WF.t w 39 (by decide)) rfl (WF.r (q := 45) w 39 10 (by decide)) ?_
        refine e_iload_n f48_67 rfl ?_
        refine e_iload f48_68 rfl ?_
        by_cases hg9 : (a0) < (0 : Int32) ∨ 8 ≤ (a0).toNatClampNeg
        · rw [if_pos hg9] at hp; cases hp
        rw [if_neg hg9] at hp
        refine e_iastore f48_70 (WF.t w 45 (by decide)) (WF.n w 45 (by decide)) hg9 ?_
        refine e_aload_n f48_71 rfl ?_
        refine e_iload_n f48_72 rfl ?_
        refine e_iconst (v := 1) f48_73 (by decide) ?_
        refine e_iadd f48_74 ?_
        refine e_iload_n f48_75 rfl ?_
        refine e_iconst (v := 1) f48_76 (by decide) ?_
        refine e_iload f48_77 rfl ?_
        refine e_ishl f48_79 ?_
        refine e_ior f48_80 ?_
        refine e_iload_n f48_81 rfl ?_
        refine e_aload_n f48_82 rfl ?_
        refine e_iload_n f48_83 rfl ?_
        refine e_iload f48_84 rfl ?_
        obtain ⟨r10, hr11, hp⟩ := bind_some hp
        try dsimp only at hp
        refine e_callV (st := [.int (a2), .int ((a1) ||| ((1) <<< ((v5) &&& 31))), .int ((a0) + (1)), .ref (39)]) (o := 39) (as := [.int (a0), .int (v5)]) f48_86 (by decide) rfl rfl (Nat.le_of_ble_eq_true rfl) (WF.t w 39 (by decide)) (Nat.le_of_ble_eq_true rfl) (p49_ok (d + 1) (hsI (h) (45) (a0).toNatClampNeg (v5)) w (a0) (v5) r10 hr11) ?_
        show ex _ 48 (89, [some (.ref (39)), some (.int (a0)), some (.int (a1)), some (.int (a2)), some (.int (a3)), some (.int (v5))], [.int (r10), .int (a2), .int ((a1) ||| ((1) <<< ((v5) &&& 31))), .int ((a0) + (1)), .ref (39)], hsI (h) (45) (a0).toNatClampNeg (v5)) = _
        refine e_iadd f48_89 ?_
        refine e_iload f48_90 rfl ?_
        refine e_aload_n f48_92 rfl ?_
        refine e_getR f48_93 (WF.t w 39 (by decide)) rfl (WF.r (q := 43) w 39 8 (by decide)) ?_
        refine e_iload f48_96 rfl ?_
        by_cases hg12 : (v5) < (0 : Int32) ∨ 8 ≤ (v5).toNatClampNeg
        · rw [if_pos hg12] at hp; cases hp
        rw [if_neg hg12] at hp
        refine e_iaload f48_98 (Or.inl (WF.t w 43 (by decide))) (WF.n w 43 (by decide)) hg12 ?_
        refine e_isub f48_99 ?_
        obtain ⟨r13, hr14, hp⟩ := bind_some hp
        try dsimp only at hp
        refine e_callV (st := []) (o := 39) (as := [.int ((a0) + (1)), .int ((a1) ||| ((1) <<< ((v5) &&& 31))), .int ((a2) + (r10)), .int ((a3) - (hI (hsI (h) (45) (a0).toNatClampNeg (v5)) (43) (v5).toNatClampNeg))]) f48_100 (by decide) rfl rfl (Nat.le_of_ble_eq_true rfl) (WF.t w 39 (by decide)) (Nat.le_of_ble_eq_true rfl) (hR48 (hsI (h) (45) (a0).toNatClampNeg (v5)) w ((a0) + (1)) ((a1) ||| ((1) <<< ((v5) &&& 31))) ((a2) + (r10)) ((a3) - (hI (hsI (h) (45) (a0).toNatClampNeg (v5)) (43) (v5).toNatClampNeg))  r13 hr14) ?_
        show ex _ 48 (103, [some (.ref (39)), some (.int (a0)), some (.int (a1)), some (.int (a2)), some (.int (a3)), some (.int (v5))], [], r13) = _
        refine ex_weak (ls := [some (.ref (39)), some (.int (a0)), some (.int (a1)), some (.int (a2)), some (.int (a3)), some (.int (v5))]) (le2_ok ⟨Or.inr rfl, Or.inr rfl, Or.inr rfl, Or.inr rfl, Or.inr rfl, Or.inr rfl, trivial⟩) ?_
        exact p48_j103_ok d F R48 a0 a1 a2 a3 ((p48_L45 F R48 a0 a1 a2 a3 n)) hR48 hW48 (ih) (r13) ((hW48 (hsI (h) (45) (a0).toNatClampNeg (v5)) w ((a0) + (1)) ((a1) ||| ((1) <<< ((v5) &&& 31))) ((a2) + (r10)) ((a3) - (hI (hsI (h) (45) (a0).toNatClampNeg (v5)) (43) (v5).toNatClampNeg))  r13 hr14)) (v5) _ hp
      · rw [if_neg hc8] at hp
        refine e_if_ne_t f48_60 hc8 ?_
        refine ex_weak (ls := [some (.ref (39)), some (.int (a0)), some (.int (a1)), some (.int (a2)), some (.int (a3)), some (.int (v5))]) (le2_ok ⟨Or.inr rfl, Or.inr rfl, Or.inr rfl, Or.inr rfl, Or.inr rfl, Or.inr rfl, trivial⟩) ?_
        exact p48_j103_ok d F R48 a0 a1 a2 a3 ((p48_L45 F R48 a0 a1 a2 a3 n)) hR48 hW48 (ih) (h) (w) (v5) _ hp
    · rw [if_neg hc7] at hp
      refine e_icmp_ge_t f48_51 hc7 ?_
      have hp := Option.some.inj hp
      subst hp
      exact e_return f48_109
set_option maxRecDepth 100000 in
set_option maxHeartbeats 4000000 in
theorem p48_L45_w (F : Nat) (R48 : HS → Int32 → Int32 → Int32 → Int32 → Option (HS)) (a0 : Int32) (a1 : Int32) (a2 : Int32) (a3 : Int32) (hW48 : ∀ (h : HS) (w : WF h) (a0 : Int32) (a1 : Int32) (a2 : Int32) (a3 : Int32) (r : HS), R48 h a0 a1 a2 a3 = some r → WF r) : ∀ (n : Nat) (h : HS) (w : WF h) (v5 : Int32) (r : HS), p48_L45 F R48 a0 a1 a2 a3 n h v5 = some r → WF r := by
  intro n
  induction n with
  | zero => intro h w v5 r hp; cases hp
  | succ n ih =>
    intro h w v5 r hp
    unfold p48_L45 at hp
    by_cases hc7 : (v5) < ((hI (h) (39) 1) : Int32)
    · rw [if_pos hc7] at hp
      by_cases hc8 : (((a1) >>> ((v5) &&& 31)) &&& (1)) = (0 : Int32)
      · rw [if_pos hc8] at hp
        by_cases hg9 : (a0) < (0 : Int32) ∨ 8 ≤ (a0).toNatClampNeg
        · rw [if_pos hg9] at hp; cases hp
        rw [if_neg hg9] at hp
        obtain ⟨r10, hr11, hp⟩ := bind_some hp
        try dsimp only at hp
        by_cases hg12 : (v5) < (0 : Int32) ∨ 8 ≤ (v5).toNatClampNeg
        · rw [if_pos hg12] at hp; cases hp
        rw [if_neg hg12] at hp
        obtain ⟨r13, hr14, hp⟩ := bind_some hp
        try dsimp only at hp
        exact p48_j103_w F R48 a0 a1 a2 a3 ((p48_L45 F R48 a0 a1 a2 a3 n)) hW48 (ih) (r13) ((hW48 (hsI (h) (45) (a0).toNatClampNeg (v5)) w ((a0) + (1)) ((a1) ||| ((1) <<< ((v5) &&& 31))) ((a2) + (r10)) ((a3) - (hI (hsI (h) (45) (a0).toNatClampNeg (v5)) (43) (v5).toNatClampNeg))  r13 hr14)) (v5) _ hp
      · rw [if_neg hc8] at hp
        exact p48_j103_w F R48 a0 a1 a2 a3 ((p48_L45 F R48 a0 a1 a2 a3 n)) hW48 (ih) (h) (w) (v5) _ hp
    · rw [if_neg hc7] at hp
      have hp := Option.some.inj hp
      subst hp
      exact (w)
set_option maxRecDepth 100000 in
set_option maxHeartbeats 4000000 in
theorem p48_ok (d : Nat) (F : Nat) (R48 : HS → Int32 → Int32 → Int32 → Int32 → Option (HS)) (hR48 : ∀ (h : HS) (w : WF h) (a0 : Int32) (a1 : Int32) (a2 : Int32) (a3 : Int32) (r : HS), R48 h a0 a1 a2 a3 = some r → ex (d + 1) 48 (ent 48 [.ref (39), .int (a0), .int (a1), .int (a2), .int (a3)] h) = some (none, r)) (hW48 : ∀ (h : HS) (w : WF h) (a0 : Int32) (a1 : Int32) (a2 : Int32) (a3 : Int32) (r : HS), R48 h a0 a1 a2 a3 = some r → WF r) (h : HS) (w : WF h) (a0 : Int32) (a1 : Int32) (a2 : Int32) (a3 : Int32) (r : HS) (hp : p48 F R48 h a0 a1 a2 a3 = some r) : ex (d + 2) 48 (ent 48 [.ref (39), .int (a0), .int (a1), .int (a2), .int (a3)] h) = some (none, r) := by
  rw [show ent 48 [.ref (39), .int (a0), .int (a1), .int (a2), .int (a3)] h = (0, [some (.ref (39)), some (.int (a0)), some (.int (a1)), some (.int (a2)), some (.int (a3)), none], [], h) from by  rfl]
  refine ex_weak (ls := [some (.ref (39)), some (.int (a0)), some (.int (a1)), some (.int (a2)), some (.int (a3)), none]) (le2_ok ⟨Or.inr rfl, Or.inr rfl, Or.inr rfl, Or.inr rfl, Or.inr rfl, Or.inr rfl, trivial⟩) ?_
  unfold p48 at hp
  refine e_iload_n f48_0 rfl ?_
  refine e_iload f48_1 rfl ?_
  refine e_aload_n f48_3 rfl ?_
  refine e_getR f48_4 (WF.t w 39 (by decide)) rfl (WF.r (q := 44) w 39 9 (by decide)) ?_
  refine e_iload_n f48_7 rfl ?_
  by_cases hg1 : (a0) < (0 : Int32) ∨ 9 ≤ (a0).toNatClampNeg
  · rw [if_pos hg1] at hp; cases hp
  rw [if_neg hg1] at hp
  refine e_iaload f48_8 (Or.inl (WF.t w 44 (by decide))) (WF.n w 44 (by decide)) hg1 ?_
  refine e_min f48_9 rfl (Nat.le_of_ble_eq_true rfl) ?_
  refine e_iadd f48_12 ?_
  refine e_aload_n f48_13 rfl ?_
  refine e_getI f48_14 (WF.t w 39 (by decide)) (by decide) ?_
  by_cases hc2 : ((a2) + (if (hI (h) (44) (a0).toNatClampNeg) < (a3) then (hI (h) (44) (a0).toNatClampNeg) else (a3))) < ((hI (h) (39) 3) : Int32)
  · rw [if_pos hc2] at hp
    refine e_icmp_ge_f f48_17 hc2 ?_
    have hp := Option.some.inj hp
    subst hp
    exact e_return f48_20
  · rw [if_neg hc2] at hp
    refine e_icmp_ge_t f48_17 hc2 ?_
    refine e_iload_n f48_21 rfl ?_
    refine e_aload_n f48_22 rfl ?_
    refine e_getI f48_23 (WF.t w 39 (by decide)) (by decide) ?_
    by_cases hc3 : (a0) < ((hI (h) (39) 1) : Int32)
    · rw [if_pos hc3] at hp
      refine e_icmp_ge_f f48_26 hc3 ?_
      refine e_iload f48_29 rfl ?_
      by_cases hc4 : (a3) = (0 : Int32)
      · rw [if_pos hc4] at hp
        refine e_if_ne_f f48_31 hc4 ?_
        refine ex_weak (ls := [some (.ref (39)), some (.int (a0)), some (.int (a1)), some (.int (a2)), none, none]) (le2_ok ⟨Or.inr rfl, Or.inr rfl, Or.inr rfl, Or.inr rfl, Or.inl rfl, Or.inl rfl, trivial⟩) ?_
        exact p48_j34_ok d F R48 a0 a1 a2 a3 hR48 hW48 (h) (w)  _ hp
      · rw [if_neg hc4] at hp
        refine e_if_ne_t f48_31 hc4 ?_
        refine e_iconst (v := 0) f48_42 (by decide) ?_
        refine e_istore (ls2 := [some (.ref (39)), some (.int (a0)), some (.int (a1)), some (.int (a2)), some (.int (a3)), some (.int (0))]) f48_43 (Nat.le_of_ble_eq_true rfl) rfl ?_
        refine ex_weak (ls := [some (.ref (39)), some (.int (a0)), some (.int (a1)), some (.int (a2)), some (.int (a3)), some (.int (0))]) (le2_ok ⟨Or.inr rfl, Or.inr rfl, Or.inr rfl, Or.inr rfl, Or.inr rfl, Or.inr rfl, trivial⟩) ?_
        exact p48_L45_ok d F R48 a0 a1 a2 a3 hR48 hW48 F (h) (w) (0) _ hp
    · rw [if_neg hc3] at hp
      refine e_icmp_ge_t f48_26 hc3 ?_
      refine ex_weak (ls := [some (.ref (39)), some (.int (a0)), some (.int (a1)), some (.int (a2)), none, none]) (le2_ok ⟨Or.inr rfl, Or.inr rfl, Or.inr rfl, Or.inr rfl, Or.inl rfl, Or.inl rfl, trivial⟩) ?_
      exact p48_j34_ok d F R48 a0 a1 a2 a3 hR48 hW48 (h) (w)  _ hp
set_option maxRecDepth 100000 in
set_option maxHeartbeats 4000000 in
theorem p48_w (F : Nat) (R48 : HS → Int32 → Int32 → Int32 → Int32 → Option (HS)) (hW48 : ∀ (h : HS) (w : WF h) (a0 : Int32) (a1 : Int32) (a2 : Int32) (a3 : Int32) (r : HS), R48 h a0 a1 a2 a3 = some r → WF r) (h : HS) (w : WF h) (a0 : Int32) (a1 : Int32) (a2 : Int32) (a3 : Int32) (r : HS) (hp : p48 F R48 h a0 a1 a2 a3 = some r) : WF r := by
  unfold p48 at hp
  by_cases hg1 : (a0) < (0 : Int32) ∨ 9 ≤ (a0).toNatClampNeg
  · rw [if_pos hg1] at hp; cases hp
  rw [if_neg hg1] at hp
  by_cases hc2 : ((a2) + (if (hI (h) (44) (a0).toNatClampNeg) < (a3) then (hI (h) (44) (a0).toNatClampNeg) else (a3))) < ((hI (h) (39) 3) : Int32)
  · rw [if_pos hc2] at hp
    have hp := Option.some.inj hp
    subst hp
    exact (w)
  · rw [if_neg hc2] at hp
    by_cases hc3 : (a0) < ((hI (h) (39) 1) : Int32)
    · rw [if_pos hc3] at hp
      by_cases hc4 : (a3) = (0 : Int32)
      · rw [if_pos hc4] at hp
        exact p48_j34_w F R48 a0 a1 a2 a3 hW48 (h) (w)  _ hp
      · rw [if_neg hc4] at hp
        exact p48_L45_w F R48 a0 a1 a2 a3 hW48 F (h) (w) (0) _ hp
    · rw [if_neg hc3] at hp
      exact p48_j34_w F R48 a0 a1 a2 a3 hW48 (h) (w)  _ hp
theorem qr48_w (F : Nat) : ∀ (n : Nat), (∀ (h : HS) (w : WF h) (a0 : Int32) (a1 : Int32) (a2 : Int32) (a3 : Int32) (r : HS), (qr48 F n) h a0 a1 a2 a3 = some r → WF r)
  | 0 => fun h w a0 a1 a2 a3 r hp => (by cases (show none = some r from hp))
  | n + 1 => by
    have ih := qr48_w F n
    exact fun h w a0 a1 a2 a3 r hp => p48_w F (qr48 F n) ih h w a0 a1 a2 a3 r hp
theorem qr48_ok (F : Nat) : ∀ (n d : Nat), n + 2 ≤ d → (∀ (h : HS) (w : WF h) (a0 : Int32) (a1 : Int32) (a2 : Int32) (a3 : Int32) (r : HS), (qr48 F n) h a0 a1 a2 a3 = some r → ex d 48 (ent 48 [.ref (39), .int (a0), .int (a1), .int (a2), .int (a3)] h) = some (none, r))
  | 0, d, _ => fun h w a0 a1 a2 a3 r hp => (by cases (show none = some r from hp))
  | n + 1, d, hd => by
    have ih := qr48_ok F n (d - 1) (by omega)
    have iw := qr48_w F n
    have e0 : d - 2 + 2 = d := by omega
    have f0 : d - 2 + (2 - 1) = d - 1 := by omega
    exact fun h w a0 a1 a2 a3 r hp => by
      have z := p48_ok (d - 2) F (qr48 F n) (fun h w a0 a1 a2 a3 r hp => by show ex (d - 2 + 1) _ _ = _; rw [show d - 2 + 1 = d - 1 by omega]; exact ih h w a0 a1 a2 a3 r hp) iw h w a0 a1 a2 a3 r hp
      rw [e0] at z
      exact z
theorem t48_ok (d F : Nat) (h : HS) (w : WF h) (a0 : Int32) (a1 : Int32) (a2 : Int32) (a3 : Int32) (r : HS) (hp : t48 F h a0 a1 a2 a3 = some r) : ex (d + 32) 48 (ent 48 [.ref (39), .int (a0), .int (a1), .int (a2), .int (a3)] h) = some (none, r) := (qr48_ok F 30 (d + 32) (by omega)) h w a0 a1 a2 a3 r hp
theorem t48_w (F : Nat) (h : HS) (w : WF h) (a0 : Int32) (a1 : Int32) (a2 : Int32) (a3 : Int32) (r : HS) (hp : t48 F h a0 a1 a2 a3 = some r) : WF r := (qr48_w F 30) h w a0 a1 a2 a3 r hp
theorem f86_0 : fetch 86 0 = some (.iload_n 1, 0, 0, 0) := rfl
theorem f86_1 : fetch 86 1 = some (.iconst 0, 0, 0, 0) := rfl
theorem f86_2 : fetch 86 2 = some (.aload_n 0, 0, 0, 0) := rfl
theorem f86_3 : fetch 86 3 = some (.getfield 28, 8, 0, 0) := rfl
theorem f86_6 : fetch 86 6 = some (.iconst 1, 0, 0, 0) := rfl
theorem f86_7 : fetch 86 7 = some (.isub, 0, 0, 0) := rfl
theorem f86_8 : fetch 86 8 = some (.invokestatic 32, 166, 3, 2) := rfl
theorem f86_11 : fetch 86 11 = some (.ireturn, 0, 0, 1) := rfl
set_option maxRecDepth 100000 in
set_option maxHeartbeats 4000000 in
theorem p86_ok (d : Nat) (h : HS) (w : WF h) (a0 : Int32) (r : Int32) (hp : p86 h a0 = some r) : ex (d + 1) 86 (ent 86 [.ref (33), .int (a0)] h) = some (some (.int (r)), h) := by
  rw [show ent 86 [.ref (33), .int (a0)] h = (0, [some (.ref (33)), some (.int (a0))], [], h) from by  rfl]
  refine ex_weak (ls := [some (.ref (33)), some (.int (a0))]) (le2_ok ⟨Or.inr rfl, Or.inr rfl, trivial⟩) ?_
  unfold p86 at hp
  refine e_iload_n f86_0 rfl ?_
  refine e_iconst (v := 0) f86_1 (by decide) ?_
  refine e_aload_n f86_2 rfl ?_
  refine e_getI f86_3 (WF.t w 33 (by decide)) (by decide) ?_
  refine e_iconst (v := 1) f86_6 (by decide) ?_
  refine e_isub f86_7 ?_
  obtain ⟨r1, hr2, hp⟩ := bind_some hp
  try dsimp only at hp
  refine e_callS (st := []) (as := [.int (a0), .int (0), .int ((hI (h) (33) 0) - (1))]) f86_8 (by decide) rfl rfl (Nat.le_of_ble_eq_true rfl) (Nat.le_of_ble_eq_true rfl) (p166_ok d (h) w (a0) (0) ((hI (h) (33) 0) - (1)) r1 hr2) ?_
  show ex _ 86 (11, [some (.ref (33)), some (.int (a0))], [.int (r1)], h) = _
  by_cases hg3 : (r1) = (0 : Int32) ∨ (r1) = (1 : Int32)
  rotate_left
  · rw [if_neg hg3] at hp; cases hp
  rw [if_pos hg3] at hp
  have hp := Option.some.inj hp
  subst hp
  exact e_ireturn f86_11 (Or.inr hg3)
theorem f44_0 : fetch 44 0 = some (.aload_n 0, 0, 0, 0) := rfl
theorem f44_1 : fetch 44 1 = some (.getfield 39, 3, 0, 2) := rfl
theorem f44_4 : fetch 44 4 = some (.iload_n 1, 0, 0, 0) := rfl
theorem f44_5 : fetch 44 5 = some (.invokevirtual 47, 86, 1, 0) := rfl
theorem f44_8 : fetch 44 8 = some (.ifCond .eq 22, 30, 0, 0) := rfl
theorem f44_11 : fetch 44 11 = some (.iload_n 2, 0, 0, 0) := rfl
theorem f44_12 : fetch 44 12 = some (.iload_n 3, 0, 0, 0) := rfl
theorem f44_13 : fetch 44 13 = some (.invokestatic 53, 43, 2, 1) := rfl
theorem f44_16 : fetch 44 16 = some (.ifCond .eq 14, 30, 0, 0) := rfl
theorem f44_19 : fetch 44 19 = some (.aload_n 0, 0, 0, 0) := rfl
theorem f44_20 : fetch 44 20 = some (.iload_n 1, 0, 0, 0) := rfl
theorem f44_21 : fetch 44 21 = some (.invokevirtual 57, 45, 1, 0) := rfl
theorem f44_24 : fetch 44 24 = some (.iload_n 2, 0, 0, 0) := rfl
theorem f44_25 : fetch 44 25 = some (.iload_n 3, 0, 0, 0) := rfl
theorem f44_26 : fetch 44 26 = some (.imul, 0, 0, 0) := rfl
theorem f44_27 : fetch 44 27 = some (.if_icmp .eq 5, 32, 0, 0) := rfl
theorem f44_30 : fetch 44 30 = some (.iconst (-1), 0, 0, 0) := rfl
theorem f44_31 : fetch 44 31 = some (.ireturn, 0, 0, 0) := rfl
theorem f44_32 : fetch 44 32 = some (.aload_n 0, 0, 0, 0) := rfl
theorem f44_33 : fetch 44 33 = some (.iload_n 2, 0, 0, 0) := rfl
theorem f44_34 : fetch 44 34 = some (.iload_n 3, 0, 0, 0) := rfl
theorem f44_35 : fetch 44 35 = some (.imul, 0, 0, 0) := rfl
theorem f44_36 : fetch 44 36 = some (.putfield 61, 3, 1, 0) := rfl
theorem f44_39 : fetch 44 39 = some (.aload_n 0, 0, 0, 0) := rfl
theorem f44_40 : fetch 44 40 = some (.iload_n 2, 0, 0, 0) := rfl
theorem f44_41 : fetch 44 41 = some (.putfield 65, 3, 2, 0) := rfl
theorem f44_44 : fetch 44 44 = some (.aload_n 0, 0, 0, 0) := rfl
theorem f44_45 : fetch 44 45 = some (.iload_n 1, 0, 0, 0) := rfl
theorem f44_46 : fetch 44 46 = some (.invokevirtual 68, 46, 1, 0) := rfl
theorem f44_49 : fetch 44 49 = some (.aload_n 0, 0, 0, 0) := rfl
theorem f44_50 : fetch 44 50 = some (.invokevirtual 72, 47, 0, 0) := rfl
theorem f44_53 : fetch 44 53 = some (.iconst 0, 0, 0, 0) := rfl
theorem f44_54 : fetch 44 54 = some (.istore 4, 0, 0, 0) := rfl
theorem f44_56 : fetch 44 56 = some (.iconst 0, 0, 0, 0) := rfl
theorem f44_57 : fetch 44 57 = some (.istore 5, 0, 0, 0) := rfl
theorem f44_59 : fetch 44 59 = some (.iload 5, 0, 0, 0) := rfl
theorem f44_61 : fetch 44 61 = some (.aload_n 0, 0, 0, 0) := rfl
theorem f44_62 : fetch 44 62 = some (.getfield 61, 3, 1, 0) := rfl
theorem f44_65 : fetch 44 65 = some (.if_icmp .ge 21, 86, 0, 0) := rfl
theorem f44_68 : fetch 44 68 = some (.iload 4, 0, 0, 0) := rfl
theorem f44_70 : fetch 44 70 = some (.aload_n 0, 0, 0, 0) := rfl
theorem f44_71 : fetch 44 71 = some (.getfield 21, 3, 8, 2) := rfl
theorem f44_74 : fetch 44 74 = some (.iload 5, 0, 0, 0) := rfl
theorem f44_76 : fetch 44 76 = some (.iaload, 0, 0, 0) := rfl
theorem f44_77 : fetch 44 77 = some (.iadd, 0, 0, 0) := rfl
theorem f44_78 : fetch 44 78 = some (.istore 4, 0, 0, 0) := rfl
theorem f44_80 : fetch 44 80 = some (.iinc 5 1, 0, 0, 0) := rfl
theorem f44_83 : fetch 44 83 = some (.goto (-24), 59, 0, 0) := rfl
theorem f44_86 : fetch 44 86 = some (.aload_n 0, 0, 0, 0) := rfl
theorem f44_87 : fetch 44 87 = some (.iconst (-1), 0, 0, 0) := rfl
theorem f44_88 : fetch 44 88 = some (.putfield 75, 3, 3, 0) := rfl
theorem f44_91 : fetch 44 91 = some (.aload_n 0, 0, 0, 0) := rfl
theorem f44_92 : fetch 44 92 = some (.iconst 0, 0, 0, 0) := rfl
theorem f44_93 : fetch 44 93 = some (.putfield 78, 3, 4, 0) := rfl
theorem f44_96 : fetch 44 96 = some (.aload_n 0, 0, 0, 0) := rfl
theorem f44_97 : fetch 44 97 = some (.iconst 0, 0, 0, 0) := rfl
theorem f44_98 : fetch 44 98 = some (.iconst 0, 0, 0, 0) := rfl
theorem f44_99 : fetch 44 99 = some (.iconst 0, 0, 0, 0) := rfl
theorem f44_100 : fetch 44 100 = some (.iload 4, 0, 0, 0) := rfl
theorem f44_102 : fetch 44 102 = some (.invokevirtual 81, 48, 4, 0) := rfl
theorem f44_105 : fetch 44 105 = some (.aload_n 0, 0, 0, 0) := rfl
theorem f44_106 : fetch 44 106 = some (.getfield 75, 3, 3, 0) := rfl
theorem f44_109 : fetch 44 109 = some (.ireturn, 0, 0, 0) := rfl
set_option maxRecDepth 100000 in
set_option maxHeartbeats 4000000 in
theorem p44_L59_ok (d : Nat) (F : Nat) (a0 : Int32) (a1 : Int32) (a2 : Int32) : ∀ (n : Nat) (h : HS) (w : WF h) (v4 : Int32) (v5 : Int32) (r : Int32 × HS), p44_L59 F a0 a1 a2 n h v4 v5 = some r → ex (d + 33) 44 (59, [some (.ref (39)), none, none, none, some (.int (v4)), some (.int (v5))], [], h) = some (some (.int (r.1)), r.2) := by
  intro n
  induction n with
  | zero => intro h w v4 v5 r hp; cases hp
  | succ n ih =>
    intro h w v4 v5 r hp
    unfold p44_L59 at hp
    refine e_iload f44_59 rfl ?_
    refine e_aload_n f44_61 rfl ?_
    refine e_getI f44_62 (WF.t w 39 (by decide)) (by decide) ?_
    by_cases hc14 : (v5) < ((hI (h) (39) 1) : Int32)
    · rw [if_pos hc14] at hp
      refine e_icmp_ge_f f44_65 hc14 ?_
      refine e_iload f44_68 rfl ?_
      refine e_aload_n f44_70 rfl ?_
      refine e_getR f44_71 (WF.t w 39 (by decide)) rfl (WF.r (q := 43) w 39 8 (by decide)) ?_
      refine e_iload f44_74 rfl ?_
      by_cases hg15 : (v5) < (0 : Int32) ∨ 8 ≤ (v5).toNatClampNeg
      · rw [if_pos hg15] at hp; cases hp
      rw [if_neg hg15] at hp
      refine e_iaload f44_76 (Or.inl (WF.t w 43 (by decide))) (WF.n w 43 (by decide)) hg15 ?_
      refine e_iadd f44_77 ?_
      refine e_istore (ls2 := [some (.ref (39)), none, none, none, some (.int ((v4) + (hI (h) (43) (v5).toNatClampNeg))), some (.int (v5))]) f44_78 (Nat.le_of_ble_eq_true rfl) rfl ?_
      refine e_iinc (ls2 := [some (.ref (39)), none, none, none, some (.int ((v4) + (hI (h) (43) (v5).toNatClampNeg))), some (.int ((v5) + 1))]) f44_80 (by decide) rfl rfl ?_
      refine e_goto f44_83 ?_
      refine ex_weak (ls := [some (.ref (39)), none, none, none, some (.int ((v4) + (hI (h) (43) (v5).toNatClampNeg))), some (.int ((v5) + 1))]) (le2_ok ⟨Or.inr rfl, Or.inl rfl, Or.inl rfl, Or.inl rfl, Or.inr rfl, Or.inr rfl, trivial⟩) ?_
      exact ih (h) (w) ((v4) + (hI (h) (43) (v5).toNatClampNeg)) ((v5) + 1) _ hp
    · rw [if_neg hc14] at hp
      refine e_icmp_ge_t f44_65 hc14 ?_
      refine e_aload_n f44_86 rfl ?_
      refine e_iconst (v := -1) f44_87 (by decide) ?_
      refine e_putI f44_88 (WF.t w 39 (by decide)) rfl ?_
      refine e_aload_n f44_91 rfl ?_
      refine e_iconst (v := 0) f44_92 (by decide) ?_
      refine e_putI f44_93 (WF.t w 39 (by decide)) rfl ?_
      refine e_aload_n f44_96 rfl ?_
      refine e_iconst (v := 0) f44_97 (by decide) ?_
      refine e_iconst (v := 0) f44_98 (by decide) ?_
      refine e_iconst (v := 0) f44_99 (by decide) ?_
      refine e_iload f44_100 rfl ?_
      obtain ⟨r16, hr17, hp⟩ := bind_some hp
      try dsimp only at hp
      refine e_callV (st := []) (o := 39) (as := [.int (0), .int (0), .int (0), .int (v4)]) f44_102 (by decide) rfl rfl (Nat.le_of_ble_eq_true rfl) (WF.t w 39 (by decide)) (Nat.le_of_ble_eq_true rfl) (t48_ok d F (hsI (hsI (h) (39) 3 ((-1))) (39) 4 (0)) w (0) (0) (0) (v4) r16 hr17) ?_
      show ex _ 44 (105, [some (.ref (39)), none, none, none, some (.int (v4)), some (.int (v5))], [], r16) = _
      refine e_aload_n f44_105 rfl ?_
      refine e_getI f44_106 (WF.t (t48_w F (hsI (hsI (h) (39) 3 ((-1))) (39) 4 (0)) w (0) (0) (0) (v4)  r16 hr17) 39 (by decide)) (by decide) ?_
      have hp := Option.some.inj hp
      subst hp
      exact e_ireturn f44_109 (Or.inl rfl)
set_option maxRecDepth 100000 in
set_option maxHeartbeats 4000000 in
theorem p44_L59_w (F : Nat) (a0 : Int32) (a1 : Int32) (a2 : Int32) : ∀ (n : Nat) (h : HS) (w : WF h) (v4 : Int32) (v5 : Int32) (r : Int32 × HS), p44_L59 F a0 a1 a2 n h v4 v5 = some r → WF r.2 := by
  intro n
  induction n with
  | zero => intro h w v4 v5 r hp; cases hp
  | succ n ih =>
    intro h w v4 v5 r hp
    unfold p44_L59 at hp
    by_cases hc14 : (v5) < ((hI (h) (39) 1) : Int32)
    · rw [if_pos hc14] at hp
      by_cases hg15 : (v5) < (0 : Int32) ∨ 8 ≤ (v5).toNatClampNeg
      · rw [if_pos hg15] at hp; cases hp
      rw [if_neg hg15] at hp
      exact ih (h) (w) ((v4) + (hI (h) (43) (v5).toNatClampNeg)) ((v5) + 1) _ hp
    · rw [if_neg hc14] at hp
      obtain ⟨r16, hr17, hp⟩ := bind_some hp
      try dsimp only at hp
      have hp := Option.some.inj hp
      subst hp
      exact ((t48_w F (hsI (hsI (h) (39) 3 ((-1))) (39) 4 (0)) w (0) (0) (0) (v4)  r16 hr17))
set_option maxRecDepth 100000 in
set_option maxHeartbeats 4000000 in
theorem p44_ok (d : Nat) (F : Nat) (h : HS) (w : WF h) (a0 : Int32) (a1 : Int32) (a2 : Int32) (r : Int32 × HS) (hp : p44 F h a0 a1 a2 = some r) : ex (d + 33) 44 (ent 44 [.ref (39), .int (a0), .int (a1), .int (a2)] h) = some (some (.int (r.1)), r.2) := by
  rw [show ent 44 [.ref (39), .int (a0), .int (a1), .int (a2)] h = (0, [some (.ref (39)), some (.int (a0)), some (.int (a1)), some (.int (a2)), none, none], [], h) from by  rfl]
  refine ex_weak (ls := [some (.ref (39)), some (.int (a0)), some (.int (a1)), some (.int (a2)), none, none]) (le2_ok ⟨Or.inr rfl, Or.inr rfl, Or.inr rfl, Or.inr rfl, Or.inr rfl, Or.inr rfl, trivial⟩) ?_
  unfold p44 at hp
  refine e_aload_n f44_0 rfl ?_
  refine e_getR f44_1 (WF.t w 39 (by decide)) rfl (WF.r (q := 33) w 39 0 (by decide)) ?_
  refine e_iload_n f44_4 rfl ?_
  obtain ⟨r1, hr2, hp⟩ := bind_some hp
  try dsimp only at hp
  refine e_callV (st := []) (o := 33) (as := [.int (a0)]) f44_5 (by decide) rfl rfl (Nat.le_of_ble_eq_true rfl) (WF.t w 33 (by decide)) (Nat.le_of_ble_eq_true rfl) (p86_ok (d + 31) (h) w (a0) r1 hr2) ?_
  show ex _ 44 (8, [some (.ref (39)), some (.int (a0)), some (.int (a1)), some (.int (a2)), none, none], [.int (r1)], h) = _
  by_cases hc3 : (r1) = (0 : Int32)
  · rw [if_pos hc3] at hp
    refine e_if_eq_t f44_8 hc3 ?_
    refine e_iconst (v := -1) f44_30 (by decide) ?_
    have hp := Option.some.inj hp
    subst hp
    exact e_ireturn f44_31 (Or.inl rfl)
  · rw [if_neg hc3] at hp
    refine e_if_eq_f f44_8 hc3 ?_
    refine e_iload_n f44_11 rfl ?_
    refine e_iload_n f44_12 rfl ?_
    obtain ⟨r4, hr5, hp⟩ := bind_some hp
    try dsimp only at hp
    refine e_callS (st := []) (as := [.int (a1), .int (a2)]) f44_13 (by decide) rfl rfl (Nat.le_of_ble_eq_true rfl) (Nat.le_of_ble_eq_true rfl) (p43_ok (d + 31) (h) w (a1) (a2) r4 hr5) ?_
    show ex _ 44 (16, [some (.ref (39)), some (.int (a0)), some (.int (a1)), some (.int (a2)), none, none], [.int (r4)], h) = _
    by_cases hc6 : (r4) = (0 : Int32)
    · rw [if_pos hc6] at hp
      refine e_if_eq_t f44_16 hc6 ?_
      refine e_iconst (v := -1) f44_30 (by decide) ?_
      have hp := Option.some.inj hp
      subst hp
      exact e_ireturn f44_31 (Or.inl rfl)
    · rw [if_neg hc6] at hp
      refine e_if_eq_f f44_16 hc6 ?_
      refine e_aload_n f44_19 rfl ?_
      refine e_iload_n f44_20 rfl ?_
      obtain ⟨r7, hr8, hp⟩ := bind_some hp
      try dsimp only at hp
      refine e_callV (st := []) (o := 39) (as := [.int (a0)]) f44_21 (by decide) rfl rfl (Nat.le_of_ble_eq_true rfl) (WF.t w 39 (by decide)) (Nat.le_of_ble_eq_true rfl) (p45_ok (d + 32) F (h) w (a0) r7 hr8) ?_
      show ex _ 44 (24, [some (.ref (39)), some (.int (a0)), some (.int (a1)), some (.int (a2)), none, none], [.int (r7)], h) = _
      refine e_iload_n f44_24 rfl ?_
      refine e_iload_n f44_25 rfl ?_
      refine e_imul f44_26 ?_
      by_cases hc9 : (r7) = (((a1) * (a2)) : Int32)
      · rw [if_pos hc9] at hp
        refine e_icmp_eq_t f44_27 hc9 ?_
        refine e_aload_n f44_32 rfl ?_
        refine e_iload_n f44_33 rfl ?_
        refine e_iload_n f44_34 rfl ?_
        refine e_imul f44_35 ?_
        refine e_putI f44_36 (WF.t w 39 (by decide)) rfl ?_
        refine e_aload_n f44_39 rfl ?_
        refine e_iload_n f44_40 rfl ?_
        refine e_putI f44_41 (WF.t w 39 (by decide)) rfl ?_
        refine e_aload_n f44_44 rfl ?_
        refine e_iload_n f44_45 rfl ?_
        obtain ⟨r10, hr11, hp⟩ := bind_some hp
        try dsimp only at hp
        refine e_callV (st := []) (o := 39) (as := [.int (a0)]) f44_46 (by decide) rfl rfl (Nat.le_of_ble_eq_true rfl) (WF.t w 39 (by decide)) (Nat.le_of_ble_eq_true rfl) (p46_ok (d + 32) F (hsI (hsI (h) (39) 1 ((a1) * (a2))) (39) 2 (a1)) w (a0) r10 hr11) ?_
        show ex _ 44 (49, [some (.ref (39)), some (.int (a0)), some (.int (a1)), some (.int (a2)), none, none], [], r10) = _
        refine e_aload_n f44_49 rfl ?_
        obtain ⟨r12, hr13, hp⟩ := bind_some hp
        try dsimp only at hp
        refine e_callV (st := []) (o := 39) (as := []) f44_50 (by decide) rfl rfl (Nat.le_of_ble_eq_true rfl) (WF.t (p46_w F (hsI (hsI (h) (39) 1 ((a1) * (a2))) (39) 2 (a1)) w (a0)  r10 hr11) 39 (by decide)) (Nat.le_of_ble_eq_true rfl) (p47_ok (d + 30) F (r10) (p46_w F (hsI (hsI (h) (39) 1 ((a1) * (a2))) (39) 2 (a1)) w (a0)  r10 hr11) r12 hr13) ?_
        show ex _ 44 (53, [some (.ref (39)), some (.int (a0)), some (.int (a1)), some (.int (a2)), none, none], [], r12) = _
        refine e_iconst (v := 0) f44_53 (by decide) ?_
        refine e_istore (ls2 := [some (.ref (39)), some (.int (a0)), some (.int (a1)), some (.int (a2)), some (.int (0)), none]) f44_54 (Nat.le_of_ble_eq_true rfl) rfl ?_
        refine e_iconst (v := 0) f44_56 (by decide) ?_
        refine e_istore (ls2 := [some (.ref (39)), some (.int (a0)), some (.int (a1)), some (.int (a2)), some (.int (0)), some (.int (0))]) f44_57 (Nat.le_of_ble_eq_true rfl) rfl ?_
        refine ex_weak (ls := [some (.ref (39)), none, none, none, some (.int (0)), some (.int (0))]) (le2_ok ⟨Or.inr rfl, Or.inl rfl, Or.inl rfl, Or.inl rfl, Or.inr rfl, Or.inr rfl, trivial⟩) ?_
        exact p44_L59_ok d F a0 a1 a2 F (r12) ((p47_w F (r10) (p46_w F (hsI (hsI (h) (39) 1 ((a1) * (a2))) (39) 2 (a1)) w (a0)  r10 hr11)  r12 hr13)) (0) (0) _ hp
      · rw [if_neg hc9] at hp
        refine e_icmp_eq_f f44_27 hc9 ?_
        refine e_iconst (v := -1) f44_30 (by decide) ?_
        have hp := Option.some.inj hp
        subst hp
        exact e_ireturn f44_31 (Or.inl rfl)
set_option maxRecDepth 100000 in
set_option maxHeartbeats 4000000 in
theorem p44_w (F : Nat) (h : HS) (w : WF h) (a0 : Int32) (a1 : Int32) (a2 : Int32) (r : Int32 × HS) (hp : p44 F h a0 a1 a2 = some r) : WF r.2 := by
  unfold p44 at hp
  obtain ⟨r1, hr2, hp⟩ := bind_some hp
  try dsimp only at hp
  by_cases hc3 : (r1) = (0 : Int32)
  · rw [if_pos hc3] at hp
    have hp := Option.some.inj hp
    subst hp
    exact (w)
  · rw [if_neg hc3] at hp
    obtain ⟨r4, hr5, hp⟩ := bind_some hp
    try dsimp only at hp
    by_cases hc6 : (r4) = (0 : Int32)
    · rw [if_pos hc6] at hp
      have hp := Option.some.inj hp
      subst hp
      exact (w)
    · rw [if_neg hc6] at hp
      obtain ⟨r7, hr8, hp⟩ := bind_some hp
      try dsimp only at hp
      by_cases hc9 : (r7) = (((a1) * (a2)) : Int32)
      · rw [if_pos hc9] at hp
        obtain ⟨r10, hr11, hp⟩ := bind_some hp
        try dsimp only at hp
        obtain ⟨r12, hr13, hp⟩ := bind_some hp
        try dsimp only at hp
        exact p44_L59_w F a0 a1 a2 F (r12) ((p47_w F (r10) (p46_w F (hsI (hsI (h) (39) 1 ((a1) * (a2))) (39) 2 (a1)) w (a0)  r10 hr11)  r12 hr13)) (0) (0) _ hp
      · rw [if_neg hc9] at hp
        have hp := Option.some.inj hp
        subst hp
        exact (w)
theorem f52_0 : fetch 52 0 = some (.aload_n 0, 0, 0, 0) := rfl
theorem f52_1 : fetch 52 1 = some (.getfield 61, 3, 1, 0) := rfl
theorem f52_4 : fetch 52 4 = some (.ifCond .ne 7, 11, 0, 0) := rfl
theorem f52_7 : fetch 52 7 = some (.iconst (-1), 0, 0, 0) := rfl
theorem f52_8 : fetch 52 8 = some (.goto 7, 15, 0, 0) := rfl
theorem f52_11 : fetch 52 11 = some (.aload_n 0, 0, 0, 0) := rfl
theorem f52_12 : fetch 52 12 = some (.getfield 78, 3, 4, 0) := rfl
theorem f52_15 : fetch 52 15 = some (.ireturn, 0, 0, 0) := rfl
set_option maxRecDepth 100000 in
set_option maxHeartbeats 4000000 in
theorem p52_ok (d : Nat) (h : HS) (w : WF h) (r : Int32) (hp : p52 h = some r) : ex (d + 0) 52 (ent 52 [.ref (39)] h) = some (some (.int (r)), h) := by
  rw [show ent 52 [.ref (39)] h = (0, [some (.ref (39))], [], h) from by  rfl]
  refine ex_weak (ls := [some (.ref (39))]) (le2_ok ⟨Or.inr rfl, trivial⟩) ?_
  unfold p52 at hp
  refine e_aload_n f52_0 rfl ?_
  refine e_getI f52_1 (WF.t w 39 (by decide)) (by decide) ?_
  by_cases hc1 : (hI (h) (39) 1) = (0 : Int32)
  · rw [if_pos hc1] at hp
    refine e_if_ne_f f52_4 hc1 ?_
    refine e_iconst (v := -1) f52_7 (by decide) ?_
    refine e_goto f52_8 ?_
    have hp := Option.some.inj hp
    subst hp
    exact e_ireturn f52_15 (Or.inl rfl)
  · rw [if_neg hc1] at hp
    refine e_if_ne_t f52_4 hc1 ?_
    refine e_aload_n f52_11 rfl ?_
    refine e_getI f52_12 (WF.t w 39 (by decide)) (by decide) ?_
    have hp := Option.some.inj hp
    subst hp
    exact e_ireturn f52_15 (Or.inl rfl)
theorem f54_0 : fetch 54 0 = some (.aload_n 0, 0, 0, 0) := rfl
theorem f54_1 : fetch 54 1 = some (.getfield 61, 3, 1, 0) := rfl
theorem f54_4 : fetch 54 4 = some (.ifCond .le 24, 28, 0, 0) := rfl
theorem f54_7 : fetch 54 7 = some (.iload_n 1, 0, 0, 0) := rfl
theorem f54_8 : fetch 54 8 = some (.iconst 0, 0, 0, 0) := rfl
theorem f54_9 : fetch 54 9 = some (.iconst 1, 0, 0, 0) := rfl
theorem f54_10 : fetch 54 10 = some (.invokestatic 43, 166, 3, 2) := rfl
theorem f54_13 : fetch 54 13 = some (.ifCond .eq 15, 28, 0, 0) := rfl
theorem f54_16 : fetch 54 16 = some (.iload_n 1, 0, 0, 0) := rfl
theorem f54_17 : fetch 54 17 = some (.aload_n 0, 0, 0, 0) := rfl
theorem f54_18 : fetch 54 18 = some (.getfield 78, 3, 4, 0) := rfl
theorem f54_21 : fetch 54 21 = some (.if_icmp .ge 7, 28, 0, 0) := rfl
theorem f54_24 : fetch 54 24 = some (.iconst 1, 0, 0, 0) := rfl
theorem f54_25 : fetch 54 25 = some (.goto 4, 29, 0, 0) := rfl
theorem f54_28 : fetch 54 28 = some (.iconst 0, 0, 0, 0) := rfl
theorem f54_29 : fetch 54 29 = some (.ireturn, 0, 0, 1) := rfl
set_option maxRecDepth 100000 in
set_option maxHeartbeats 4000000 in
theorem p54_ok (d : Nat) (h : HS) (w : WF h) (a0 : Int32) (r : Int32) (hp : p54 h a0 = some r) : ex (d + 1) 54 (ent 54 [.ref (39), .int (a0)] h) = some (some (.int (r)), h) := by
  rw [show ent 54 [.ref (39), .int (a0)] h = (0, [some (.ref (39)), some (.int (a0))], [], h) from by  rfl]
  refine ex_weak (ls := [some (.ref (39)), some (.int (a0))]) (le2_ok ⟨Or.inr rfl, Or.inr rfl, trivial⟩) ?_
  unfold p54 at hp
  refine e_aload_n f54_0 rfl ?_
  refine e_getI f54_1 (WF.t w 39 (by decide)) (by decide) ?_
  by_cases hc1 : (0 : Int32) < (hI (h) (39) 1)
  · rw [if_pos hc1] at hp
    refine e_if_le_f f54_4 hc1 ?_
    refine e_iload_n f54_7 rfl ?_
    refine e_iconst (v := 0) f54_8 (by decide) ?_
    refine e_iconst (v := 1) f54_9 (by decide) ?_
    obtain ⟨r2, hr3, hp⟩ := bind_some hp
    try dsimp only at hp
    refine e_callS (st := []) (as := [.int (a0), .int (0), .int (1)]) f54_10 (by decide) rfl rfl (Nat.le_of_ble_eq_true rfl) (Nat.le_of_ble_eq_true rfl) (p166_ok d (h) w (a0) (0) (1) r2 hr3) ?_
    show ex _ 54 (13, [some (.ref (39)), some (.int (a0))], [.int (r2)], h) = _
    by_cases hc4 : (r2) = (0 : Int32)
    · rw [if_pos hc4] at hp
      refine e_if_eq_t f54_13 hc4 ?_
      refine e_iconst (v := 0) f54_28 (by decide) ?_
      have hp := Option.some.inj hp
      subst hp
      exact e_ireturn f54_29 (by decide)
    · rw [if_neg hc4] at hp
      refine e_if_eq_f f54_13 hc4 ?_
      refine e_iload_n f54_16 rfl ?_
      refine e_aload_n f54_17 rfl ?_
      refine e_getI f54_18 (WF.t w 39 (by decide)) (by decide) ?_
      by_cases hc5 : (a0) < ((hI (h) (39) 4) : Int32)
      · rw [if_pos hc5] at hp
        refine e_icmp_ge_f f54_21 hc5 ?_
        refine e_iconst (v := 1) f54_24 (by decide) ?_
        refine e_goto f54_25 ?_
        have hp := Option.some.inj hp
        subst hp
        exact e_ireturn f54_29 (by decide)
      · rw [if_neg hc5] at hp
        refine e_icmp_ge_t f54_21 hc5 ?_
        refine e_iconst (v := 0) f54_28 (by decide) ?_
        have hp := Option.some.inj hp
        subst hp
        exact e_ireturn f54_29 (by decide)
  · rw [if_neg hc1] at hp
    refine e_if_le_t f54_4 hc1 ?_
    refine e_iconst (v := 0) f54_28 (by decide) ?_
    have hp := Option.some.inj hp
    subst hp
    exact e_ireturn f54_29 (by decide)
theorem f55_0 : fetch 55 0 = some (.iload_n 1, 0, 0, 0) := rfl
theorem f55_1 : fetch 55 1 = some (.ifCond .ne 10, 11, 0, 0) := rfl
theorem f55_4 : fetch 55 4 = some (.aload_n 0, 0, 0, 0) := rfl
theorem f55_5 : fetch 55 5 = some (.getfield 30, 3, 11, 2) := rfl
theorem f55_8 : fetch 55 8 = some (.goto 7, 15, 0, 0) := rfl
theorem f55_11 : fetch 55 11 = some (.aload_n 0, 0, 0, 0) := rfl
theorem f55_12 : fetch 55 12 = some (.getfield 33, 3, 12, 2) := rfl
theorem f55_15 : fetch 55 15 = some (.areturn, 0, 0, 0) := rfl
set_option maxRecDepth 100000 in
set_option maxHeartbeats 4000000 in
theorem p55_ok (d : Nat) (h : HS) (w : WF h) (a0 : Int32) (r : Option Nat) (hp : p55 h a0 = some r) : ex (d + 0) 55 (ent 55 [.ref (39), .int (a0)] h) = some (some (va_rf (r)), h) := by
  rw [show ent 55 [.ref (39), .int (a0)] h = (0, [some (.ref (39)), some (.int (a0))], [], h) from by  rfl]
  refine ex_weak (ls := [some (.ref (39)), some (.int (a0))]) (le2_ok ⟨Or.inr rfl, Or.inr rfl, trivial⟩) ?_
  unfold p55 at hp
  refine e_iload_n f55_0 rfl ?_
  by_cases hc1 : (a0) = (0 : Int32)
  · rw [if_pos hc1] at hp
    refine e_if_ne_f f55_1 hc1 ?_
    refine e_aload_n f55_4 rfl ?_
    refine e_getR f55_5 (WF.t w 39 (by decide)) rfl (WF.r (q := 46) w 39 11 (by decide)) ?_
    refine e_goto f55_8 ?_
    have hp := Option.some.inj hp
    subst hp
    exact e_areturn (v := some (46)) f55_15
  · rw [if_neg hc1] at hp
    refine e_if_ne_t f55_1 hc1 ?_
    refine e_aload_n f55_11 rfl ?_
    refine e_getR f55_12 (WF.t w 39 (by decide)) rfl (WF.r (q := 47) w 39 12 (by decide)) ?_
    have hp := Option.some.inj hp
    subst hp
    exact e_areturn (v := some (47)) f55_15
theorem f53_0 : fetch 53 0 = some (.aload_n 0, 0, 0, 0) := rfl
theorem f53_1 : fetch 53 1 = some (.iload_n 1, 0, 0, 0) := rfl
theorem f53_2 : fetch 53 2 = some (.invokevirtual 120, 54, 1, 0) := rfl
theorem f53_5 : fetch 53 5 = some (.ifCond .eq 27, 32, 0, 0) := rfl
theorem f53_8 : fetch 53 8 = some (.iload_n 2, 0, 0, 0) := rfl
theorem f53_9 : fetch 53 9 = some (.iconst 0, 0, 0, 0) := rfl
theorem f53_10 : fetch 53 10 = some (.aload_n 0, 0, 0, 0) := rfl
theorem f53_11 : fetch 53 11 = some (.getfield 61, 3, 1, 0) := rfl
theorem f53_14 : fetch 53 14 = some (.iconst 1, 0, 0, 0) := rfl
theorem f53_15 : fetch 53 15 = some (.isub, 0, 0, 0) := rfl
theorem f53_16 : fetch 53 16 = some (.invokestatic 43, 166, 3, 2) := rfl
theorem f53_19 : fetch 53 19 = some (.ifCond .eq 13, 32, 0, 0) := rfl
theorem f53_22 : fetch 53 22 = some (.aload_n 0, 0, 0, 0) := rfl
theorem f53_23 : fetch 53 23 = some (.iload_n 1, 0, 0, 0) := rfl
theorem f53_24 : fetch 53 24 = some (.invokevirtual 123, 55, 1, 0) := rfl
theorem f53_27 : fetch 53 27 = some (.iload_n 2, 0, 0, 0) := rfl
theorem f53_28 : fetch 53 28 = some (.iaload, 0, 0, 0) := rfl
theorem f53_29 : fetch 53 29 = some (.goto 4, 33, 0, 0) := rfl
theorem f53_32 : fetch 53 32 = some (.iconst (-1), 0, 0, 0) := rfl
theorem f53_33 : fetch 53 33 = some (.ireturn, 0, 0, 0) := rfl
set_option maxRecDepth 100000 in
set_option maxHeartbeats 4000000 in
theorem p53_ok (d : Nat) (h : HS) (w : WF h) (a0 : Int32) (a1 : Int32) (r : Int32) (hp : p53 h a0 a1 = some r) : ex (d + 2) 53 (ent 53 [.ref (39), .int (a0), .int (a1)] h) = some (some (.int (r)), h) := by
  rw [show ent 53 [.ref (39), .int (a0), .int (a1)] h = (0, [some (.ref (39)), some (.int (a0)), some (.int (a1))], [], h) from by  rfl]
  refine ex_weak (ls := [some (.ref (39)), some (.int (a0)), some (.int (a1))]) (le2_ok ⟨Or.inr rfl, Or.inr rfl, Or.inr rfl, trivial⟩) ?_
  unfold p53 at hp
  refine e_aload_n f53_0 rfl ?_
  refine e_iload_n f53_1 rfl ?_
  obtain ⟨r1, hr2, hp⟩ := bind_some hp
  try dsimp only at hp
  refine e_callV (st := []) (o := 39) (as := [.int (a0)]) f53_2 (by decide) rfl rfl (Nat.le_of_ble_eq_true rfl) (WF.t w 39 (by decide)) (Nat.le_of_ble_eq_true rfl) (p54_ok d (h) w (a0) r1 hr2) ?_
  show ex _ 53 (5, [some (.ref (39)), some (.int (a0)), some (.int (a1))], [.int (r1)], h) = _
  by_cases hc3 : (r1) = (0 : Int32)
  · rw [if_pos hc3] at hp
    refine e_if_eq_t f53_5 hc3 ?_
    refine e_iconst (v := -1) f53_32 (by decide) ?_
    have hp := Option.some.inj hp
    subst hp
    exact e_ireturn f53_33 (Or.inl rfl)
  · rw [if_neg hc3] at hp
    refine e_if_eq_f f53_5 hc3 ?_
    refine e_iload_n f53_8 rfl ?_
    refine e_iconst (v := 0) f53_9 (by decide) ?_
    refine e_aload_n f53_10 rfl ?_
    refine e_getI f53_11 (WF.t w 39 (by decide)) (by decide) ?_
    refine e_iconst (v := 1) f53_14 (by decide) ?_
    refine e_isub f53_15 ?_
    obtain ⟨r4, hr5, hp⟩ := bind_some hp
    try dsimp only at hp
    refine e_callS (st := []) (as := [.int (a1), .int (0), .int ((hI (h) (39) 1) - (1))]) f53_16 (by decide) rfl rfl (Nat.le_of_ble_eq_true rfl) (Nat.le_of_ble_eq_true rfl) (p166_ok (d + 1) (h) w (a1) (0) ((hI (h) (39) 1) - (1)) r4 hr5) ?_
    show ex _ 53 (19, [some (.ref (39)), some (.int (a0)), some (.int (a1))], [.int (r4)], h) = _
    by_cases hc6 : (r4) = (0 : Int32)
    · rw [if_pos hc6] at hp
      refine e_if_eq_t f53_19 hc6 ?_
      refine e_iconst (v := -1) f53_32 (by decide) ?_
      have hp := Option.some.inj hp
      subst hp
      exact e_ireturn f53_33 (Or.inl rfl)
    · rw [if_neg hc6] at hp
      refine e_if_eq_f f53_19 hc6 ?_
      refine e_aload_n f53_22 rfl ?_
      refine e_iload_n f53_23 rfl ?_
      obtain ⟨r7, hr8, hp⟩ := bind_some hp
      try dsimp only at hp
      refine e_callV (st := []) (o := 39) (as := [.int (a0)]) f53_24 (by decide) rfl rfl (Nat.le_of_ble_eq_true rfl) (WF.t w 39 (by decide)) (Nat.le_of_ble_eq_true rfl) (p55_ok (d + 1) (h) w (a0) r7 hr8) ?_
      show ex _ 53 (27, [some (.ref (39)), some (.int (a0)), some (.int (a1))], [va_rf (r7)], h) = _
      refine e_iload_n f53_27 rfl ?_
      obtain ⟨o9, ho10, hp⟩ := bind_some hp
      try dsimp only at hp
      rw [ho10]
      by_cases hg11 : hT (h) (o9) = 20
      rotate_left
      · rw [if_neg hg11] at hp; cases hp
      rw [if_pos hg11] at hp
      by_cases hg12 : (a1) < (0 : Int32) ∨ hN (h) (o9) ≤ (a1).toNatClampNeg
      · rw [if_pos hg12] at hp; cases hp
      rw [if_neg hg12] at hp
      refine e_iaload f53_28 (Or.inl hg11) rfl hg12 ?_
      refine e_goto f53_29 ?_
      have hp := Option.some.inj hp
      subst hp
      exact e_ireturn f53_33 (Or.inl rfl)
theorem f56_0 : fetch 56 0 = some (.aload_n 0, 0, 0, 0) := rfl
theorem f56_1 : fetch 56 1 = some (.iload_n 1, 0, 0, 0) := rfl
theorem f56_2 : fetch 56 2 = some (.invokevirtual 120, 54, 1, 0) := rfl
theorem f56_5 : fetch 56 5 = some (.ifCond .ne 5, 10, 0, 0) := rfl
theorem f56_8 : fetch 56 8 = some (.iconst 0, 0, 0, 0) := rfl
theorem f56_9 : fetch 56 9 = some (.ireturn, 0, 0, 1) := rfl
theorem f56_10 : fetch 56 10 = some (.iconst 0, 0, 0, 0) := rfl
theorem f56_11 : fetch 56 11 = some (.istore_n 2, 0, 0, 0) := rfl
theorem f56_12 : fetch 56 12 = some (.iload_n 2, 0, 0, 0) := rfl
theorem f56_13 : fetch 56 13 = some (.aload_n 0, 0, 0, 0) := rfl
theorem f56_14 : fetch 56 14 = some (.getfield 61, 3, 1, 0) := rfl
theorem f56_17 : fetch 56 17 = some (.if_icmp .ge 29, 46, 0, 0) := rfl
theorem f56_20 : fetch 56 20 = some (.aload_n 0, 0, 0, 0) := rfl
theorem f56_21 : fetch 56 21 = some (.getfield 39, 3, 0, 2) := rfl
theorem f56_24 : fetch 56 24 = some (.getfield 91, 8, 5, 2) := rfl
theorem f56_27 : fetch 56 27 = some (.aload_n 0, 0, 0, 0) := rfl
theorem f56_28 : fetch 56 28 = some (.getfield 30, 3, 11, 2) := rfl
theorem f56_31 : fetch 56 31 = some (.iload_n 2, 0, 0, 0) := rfl
theorem f56_32 : fetch 56 32 = some (.iaload, 0, 0, 0) := rfl
theorem f56_33 : fetch 56 33 = some (.iaload, 0, 0, 0) := rfl
theorem f56_34 : fetch 56 34 = some (.iconst (-1), 0, 0, 0) := rfl
theorem f56_35 : fetch 56 35 = some (.if_icmp .eq 5, 40, 0, 0) := rfl
theorem f56_38 : fetch 56 38 = some (.iconst 0, 0, 0, 0) := rfl
theorem f56_39 : fetch 56 39 = some (.ireturn, 0, 0, 1) := rfl
theorem f56_40 : fetch 56 40 = some (.iinc 2 1, 0, 0, 0) := rfl
theorem f56_43 : fetch 56 43 = some (.goto (-31), 12, 0, 0) := rfl
theorem f56_46 : fetch 56 46 = some (.iconst 1, 0, 0, 0) := rfl
theorem f56_47 : fetch 56 47 = some (.ireturn, 0, 0, 1) := rfl
set_option maxRecDepth 100000 in
set_option maxHeartbeats 4000000 in
theorem p56_L12_ok (d : Nat) (F : Nat) (a0 : Int32) (h : HS) (w : WF h)  : ∀ (n : Nat) (v2 : Int32) (r : Int32), p56_L12 F a0 n h v2 = some r → ex (d + 2) 56 (12, [some (.ref (39)), none, some (.int (v2))], [], h) = some (some (.int (r)), h) := by
  intro n
  induction n with
  | zero => intro v2 r hp; cases hp
  | succ n ih =>
    intro v2 r hp
    unfold p56_L12 at hp
    refine e_iload_n f56_12 rfl ?_
    refine e_aload_n f56_13 rfl ?_
    refine e_getI f56_14 (WF.t w 39 (by decide)) (by decide) ?_
    by_cases hc4 : (v2) < ((hI (h) (39) 1) : Int32)
    · rw [if_pos hc4] at hp
      refine e_icmp_ge_f f56_17 hc4 ?_
      refine e_aload_n f56_20 rfl ?_
      refine e_getR f56_21 (WF.t w 39 (by decide)) rfl (WF.r (q := 33) w 39 0 (by decide)) ?_
      refine e_getR f56_24 (WF.t w 33 (by decide)) rfl (WF.r (q := 37) w 33 5 (by decide)) ?_
      refine e_aload_n f56_27 rfl ?_
      refine e_getR f56_28 (WF.t w 39 (by decide)) rfl (WF.r (q := 46) w 39 11 (by decide)) ?_
      refine e_iload_n f56_31 rfl ?_
      by_cases hg5 : (v2) < (0 : Int32) ∨ 8 ≤ (v2).toNatClampNeg
      · rw [if_pos hg5] at hp; cases hp
      rw [if_neg hg5] at hp
      refine e_iaload f56_32 (Or.inl (WF.t w 46 (by decide))) (WF.n w 46 (by decide)) hg5 ?_
      by_cases hg6 : (hI (h) (46) (v2).toNatClampNeg) < (0 : Int32) ∨ 200 ≤ (hI (h) (46) (v2).toNatClampNeg).toNatClampNeg
      · rw [if_pos hg6] at hp; cases hp
      rw [if_neg hg6] at hp
      refine e_iaload f56_33 (Or.inl (WF.t w 37 (by decide))) (WF.n w 37 (by decide)) hg6 ?_
      refine e_iconst (v := -1) f56_34 (by decide) ?_
      by_cases hc7 : (hI (h) (37) (hI (h) (46) (v2).toNatClampNeg).toNatClampNeg) = (((-1)) : Int32)
      · rw [if_pos hc7] at hp
        refine e_icmp_eq_t f56_35 hc7 ?_
        refine e_iinc (ls2 := [some (.ref (39)), none, some (.int ((v2) + 1))]) f56_40 (by decide) rfl rfl ?_
        refine e_goto f56_43 ?_
        refine ex_weak (ls := [some (.ref (39)), none, some (.int ((v2) + 1))]) (le2_ok ⟨Or.inr rfl, Or.inl rfl, Or.inr rfl, trivial⟩) ?_
        exact ih ((v2) + 1) _ hp
      · rw [if_neg hc7] at hp
        refine e_icmp_eq_f f56_35 hc7 ?_
        refine e_iconst (v := 0) f56_38 (by decide) ?_
        have hp := Option.some.inj hp
        subst hp
        exact e_ireturn f56_39 (by decide)
    · rw [if_neg hc4] at hp
      refine e_icmp_ge_t f56_17 hc4 ?_
      refine e_iconst (v := 1) f56_46 (by decide) ?_
      have hp := Option.some.inj hp
      subst hp
      exact e_ireturn f56_47 (by decide)
set_option maxRecDepth 100000 in
set_option maxHeartbeats 4000000 in
theorem p56_ok (d : Nat) (F : Nat) (h : HS) (w : WF h) (a0 : Int32) (r : Int32) (hp : p56 F h a0 = some r) : ex (d + 2) 56 (ent 56 [.ref (39), .int (a0)] h) = some (some (.int (r)), h) := by
  rw [show ent 56 [.ref (39), .int (a0)] h = (0, [some (.ref (39)), some (.int (a0)), none], [], h) from by  rfl]
  refine ex_weak (ls := [some (.ref (39)), some (.int (a0)), none]) (le2_ok ⟨Or.inr rfl, Or.inr rfl, Or.inr rfl, trivial⟩) ?_
  unfold p56 at hp
  refine e_aload_n f56_0 rfl ?_
  refine e_iload_n f56_1 rfl ?_
  obtain ⟨r1, hr2, hp⟩ := bind_some hp
  try dsimp only at hp
  refine e_callV (st := []) (o := 39) (as := [.int (a0)]) f56_2 (by decide) rfl rfl (Nat.le_of_ble_eq_true rfl) (WF.t w 39 (by decide)) (Nat.le_of_ble_eq_true rfl) (p54_ok d (h) w (a0) r1 hr2) ?_
  show ex _ 56 (5, [some (.ref (39)), some (.int (a0)), none], [.int (r1)], h) = _
  by_cases hc3 : (r1) = (0 : Int32)
  · rw [if_pos hc3] at hp
    refine e_if_ne_f f56_5 hc3 ?_
    refine e_iconst (v := 0) f56_8 (by decide) ?_
    have hp := Option.some.inj hp
    subst hp
    exact e_ireturn f56_9 (by decide)
  · rw [if_neg hc3] at hp
    refine e_if_ne_t f56_5 hc3 ?_
    refine e_iconst (v := 0) f56_10 (by decide) ?_
    refine e_istore_n (ls2 := [some (.ref (39)), some (.int (a0)), some (.int (0))]) f56_11 (Nat.le_of_ble_eq_true rfl) rfl ?_
    refine ex_weak (ls := [some (.ref (39)), none, some (.int (0))]) (le2_ok ⟨Or.inr rfl, Or.inl rfl, Or.inr rfl, trivial⟩) ?_
    exact p56_L12_ok d F a0 (h) (w) F (0) _ hp
theorem f57_0 : fetch 57 0 = some (.aload_n 0, 0, 0, 0) := rfl
theorem f57_1 : fetch 57 1 = some (.iload_n 1, 0, 0, 0) := rfl
theorem f57_2 : fetch 57 2 = some (.invokevirtual 123, 55, 1, 0) := rfl
theorem f57_5 : fetch 57 5 = some (.astore_n 3, 0, 0, 0) := rfl
theorem f57_6 : fetch 57 6 = some (.iconst 0, 0, 0, 0) := rfl
theorem f57_7 : fetch 57 7 = some (.istore 4, 0, 0, 0) := rfl
theorem f57_9 : fetch 57 9 = some (.iload 4, 0, 0, 0) := rfl
theorem f57_11 : fetch 57 11 = some (.aload_n 0, 0, 0, 0) := rfl
theorem f57_12 : fetch 57 12 = some (.getfield 61, 3, 1, 0) := rfl
theorem f57_15 : fetch 57 15 = some (.if_icmp .ge 22, 37, 0, 0) := rfl
theorem f57_18 : fetch 57 18 = some (.aload_n 0, 0, 0, 0) := rfl
theorem f57_19 : fetch 57 19 = some (.getfield 39, 3, 0, 2) := rfl
theorem f57_22 : fetch 57 22 = some (.getfield 91, 8, 5, 2) := rfl
theorem f57_25 : fetch 57 25 = some (.aload_n 3, 0, 0, 0) := rfl
theorem f57_26 : fetch 57 26 = some (.iload 4, 0, 0, 0) := rfl
theorem f57_28 : fetch 57 28 = some (.iaload, 0, 0, 0) := rfl
theorem f57_29 : fetch 57 29 = some (.iload_n 2, 0, 0, 0) := rfl
theorem f57_30 : fetch 57 30 = some (.iastore, 0, 0, 0) := rfl
theorem f57_31 : fetch 57 31 = some (.iinc 4 1, 0, 0, 0) := rfl
theorem f57_34 : fetch 57 34 = some (.goto (-25), 9, 0, 0) := rfl
theorem f57_37 : fetch 57 37 = some (.aload_n 0, 0, 0, 0) := rfl
theorem f57_38 : fetch 57 38 = some (.getfield 61, 3, 1, 0) := rfl
theorem f57_41 : fetch 57 41 = some (.ireturn, 0, 0, 0) := rfl
set_option maxRecDepth 100000 in
set_option maxHeartbeats 4000000 in
theorem p57_L9_ok (d : Nat) (F : Nat) (a0 : Int32) (a1 : Int32) : ∀ (n : Nat) (h : HS) (w : WF h) (v3 : Option Nat) (v4 : Int32) (r : Int32 × HS), p57_L9 F a0 a1 n h v3 v4 = some r → ex (d + 1) 57 (9, [some (.ref (39)), none, some (.int (a1)), some (va_rf (v3)), some (.int (v4))], [], h) = some (some (.int (r.1)), r.2) := by
  intro n
  induction n with
  | zero => intro h w v3 v4 r hp; cases hp
  | succ n ih =>
    intro h w v3 v4 r hp
    unfold p57_L9 at hp
    refine e_iload f57_9 rfl ?_
    refine e_aload_n f57_11 rfl ?_
    refine e_getI f57_12 (WF.t w 39 (by decide)) (by decide) ?_
    by_cases hc3 : (v4) < ((hI (h) (39) 1) : Int32)
    · rw [if_pos hc3] at hp
      refine e_icmp_ge_f f57_15 hc3 ?_
      refine e_aload_n f57_18 rfl ?_
      refine e_getR f57_19 (WF.t w 39 (by decide)) rfl (WF.r (q := 33) w 39 0 (by decide)) ?_
      refine e_getR f57_22 (WF.t w 33 (by decide)) rfl (WF.r (q := 37) w 33 5 (by decide)) ?_
      refine e_qload_n f57_25 rfl ?_
      refine e_iload f57_26 rfl ?_
      obtain ⟨o4, ho5, hp⟩ := bind_some hp
      try dsimp only at hp
      rw [ho5]
      by_cases hg6 : hT (h) (o4) = 20
      rotate_left
      · rw [if_neg hg6] at hp; cases hp
      rw [if_pos hg6] at hp
      by_cases hg7 : (v4) < (0 : Int32) ∨ hN (h) (o4) ≤ (v4).toNatClampNeg
      · rw [if_pos hg7] at hp; cases hp
      rw [if_neg hg7] at hp
      refine e_iaload f57_28 (Or.inl hg6) rfl hg7 ?_
      refine e_iload_n f57_29 rfl ?_
      by_cases hg8 : (hI (h) (o4) (v4).toNatClampNeg) < (0 : Int32) ∨ 200 ≤ (hI (h) (o4) (v4).toNatClampNeg).toNatClampNeg
      · rw [if_pos hg8] at hp; cases hp
      rw [if_neg hg8] at hp
      refine e_iastore f57_30 (WF.t w 37 (by decide)) (WF.n w 37 (by decide)) hg8 ?_
      refine e_iinc (ls2 := [some (.ref (39)), none, some (.int (a1)), some (.ref (o4)), some (.int ((v4) + 1))]) f57_31 (by decide) rfl rfl ?_
      refine e_goto f57_34 ?_
      refine ex_weak (ls := [some (.ref (39)), none, some (.int (a1)), some (.ref (o4)), some (.int ((v4) + 1))]) (le2_ok ⟨Or.inr rfl, Or.inl rfl, Or.inr rfl, Or.inr rfl, Or.inr rfl, trivial⟩) ?_
      exact ih (hsI (h) (37) (hI (h) (o4) (v4).toNatClampNeg).toNatClampNeg (a1)) (w) (some (o4)) ((v4) + 1) _ hp
    · rw [if_neg hc3] at hp
      refine e_icmp_ge_t f57_15 hc3 ?_
      refine e_aload_n f57_37 rfl ?_
      refine e_getI f57_38 (WF.t w 39 (by decide)) (by decide) ?_
      have hp := Option.some.inj hp
      subst hp
      exact e_ireturn f57_41 (Or.inl rfl)
set_option maxRecDepth 100000 in
set_option maxHeartbeats 4000000 in
theorem p57_L9_w (F : Nat) (a0 : Int32) (a1 : Int32) : ∀ (n : Nat) (h : HS) (w : WF h) (v3 : Option Nat) (v4 : Int32) (r : Int32 × HS), p57_L9 F a0 a1 n h v3 v4 = some r → WF r.2 := by
  intro n
  induction n with
  | zero => intro h w v3 v4 r hp; cases hp
  | succ n ih =>
    intro h w v3 v4 r hp
    unfold p57_L9 at hp
    by_cases hc3 : (v4) < ((hI (h) (39) 1) : Int32)
    · rw [if_pos hc3] at hp
      obtain ⟨o4, ho5, hp⟩ := bind_some hp
      try dsimp only at hp
      by_cases hg6 : hT (h) (o4) = 20
      rotate_left
      · rw [if_neg hg6] at hp; cases hp
      rw [if_pos hg6] at hp
      by_cases hg7 : (v4) < (0 : Int32) ∨ hN (h) (o4) ≤ (v4).toNatClampNeg
      · rw [if_pos hg7] at hp; cases hp
      rw [if_neg hg7] at hp
      by_cases hg8 : (hI (h) (o4) (v4).toNatClampNeg) < (0 : Int32) ∨ 200 ≤ (hI (h) (o4) (v4).toNatClampNeg).toNatClampNeg
      · rw [if_pos hg8] at hp; cases hp
      rw [if_neg hg8] at hp
      exact ih (hsI (h) (37) (hI (h) (o4) (v4).toNatClampNeg).toNatClampNeg (a1)) (w) (some (o4)) ((v4) + 1) _ hp
    · rw [if_neg hc3] at hp
      have hp := Option.some.inj hp
      subst hp
      exact (w)
set_option maxRecDepth 100000 in
set_option maxHeartbeats 4000000 in
theorem p57_ok (d : Nat) (F : Nat) (h : HS) (w : WF h) (a0 : Int32) (a1 : Int32) (r : Int32 × HS) (hp : p57 F h a0 a1 = some r) : ex (d + 1) 57 (ent 57 [.ref (39), .int (a0), .int (a1)] h) = some (some (.int (r.1)), r.2) := by
  rw [show ent 57 [.ref (39), .int (a0), .int (a1)] h = (0, [some (.ref (39)), some (.int (a0)), some (.int (a1)), none, none], [], h) from by  rfl]
  refine ex_weak (ls := [some (.ref (39)), some (.int (a0)), some (.int (a1)), none, none]) (le2_ok ⟨Or.inr rfl, Or.inr rfl, Or.inr rfl, Or.inr rfl, Or.inr rfl, trivial⟩) ?_
  unfold p57 at hp
  refine e_aload_n f57_0 rfl ?_
  refine e_iload_n f57_1 rfl ?_
  obtain ⟨r1, hr2, hp⟩ := bind_some hp
  try dsimp only at hp
  refine e_callV (st := []) (o := 39) (as := [.int (a0)]) f57_2 (by decide) rfl rfl (Nat.le_of_ble_eq_true rfl) (WF.t w 39 (by decide)) (Nat.le_of_ble_eq_true rfl) (p55_ok d (h) w (a0) r1 hr2) ?_
  show ex _ 57 (5, [some (.ref (39)), some (.int (a0)), some (.int (a1)), none, none], [va_rf (r1)], h) = _
  refine e_qstore_n (ls2 := [some (.ref (39)), some (.int (a0)), some (.int (a1)), some (va_rf (r1)), none]) f57_5 (Nat.le_of_ble_eq_true rfl) rfl ?_
  refine e_iconst (v := 0) f57_6 (by decide) ?_
  refine e_istore (ls2 := [some (.ref (39)), some (.int (a0)), some (.int (a1)), some (va_rf (r1)), some (.int (0))]) f57_7 (Nat.le_of_ble_eq_true rfl) (by generalize r1 = z; cases z <;> rfl) ?_
  refine ex_weak (ls := [some (.ref (39)), none, some (.int (a1)), some (va_rf (r1)), some (.int (0))]) (le2_ok ⟨Or.inr rfl, Or.inl rfl, Or.inr rfl, Or.inr rfl, Or.inr rfl, trivial⟩) ?_
  exact p57_L9_ok d F a0 a1 F (h) (w) (r1) (0) _ hp
set_option maxRecDepth 100000 in
set_option maxHeartbeats 4000000 in
theorem p57_w (F : Nat) (h : HS) (w : WF h) (a0 : Int32) (a1 : Int32) (r : Int32 × HS) (hp : p57 F h a0 a1 = some r) : WF r.2 := by
  unfold p57 at hp
  obtain ⟨r1, hr2, hp⟩ := bind_some hp
  try dsimp only at hp
  exact p57_L9_w F a0 a1 F (h) (w) (r1) (0) _ hp
theorem f87_0 : fetch 87 0 = some (.iload_n 1, 0, 0, 0) := rfl
theorem f87_1 : fetch 87 1 = some (.iconst 0, 0, 0, 0) := rfl
theorem f87_2 : fetch 87 2 = some (.aload_n 0, 0, 0, 0) := rfl
theorem f87_3 : fetch 87 3 = some (.getfield 36, 8, 1, 0) := rfl
theorem f87_6 : fetch 87 6 = some (.iconst 1, 0, 0, 0) := rfl
theorem f87_7 : fetch 87 7 = some (.isub, 0, 0, 0) := rfl
theorem f87_8 : fetch 87 8 = some (.invokestatic 32, 166, 3, 2) := rfl
theorem f87_11 : fetch 87 11 = some (.ireturn, 0, 0, 1) := rfl
set_option maxRecDepth 100000 in
set_option maxHeartbeats 4000000 in
theorem p87_ok (d : Nat) (h : HS) (w : WF h) (a0 : Int32) (r : Int32) (hp : p87 h a0 = some r) : ex (d + 1) 87 (ent 87 [.ref (33), .int (a0)] h) = some (some (.int (r)), h) := by
  rw [show ent 87 [.ref (33), .int (a0)] h = (0, [some (.ref (33)), some (.int (a0))], [], h) from by  rfl]
  refine ex_weak (ls := [some (.ref (33)), some (.int (a0))]) (le2_ok ⟨Or.inr rfl, Or.inr rfl, trivial⟩) ?_
  unfold p87 at hp
  refine e_iload_n f87_0 rfl ?_
  refine e_iconst (v := 0) f87_1 (by decide) ?_
  refine e_aload_n f87_2 rfl ?_
  refine e_getI f87_3 (WF.t w 33 (by decide)) (by decide) ?_
  refine e_iconst (v := 1) f87_6 (by decide) ?_
  refine e_isub f87_7 ?_
  obtain ⟨r1, hr2, hp⟩ := bind_some hp
  try dsimp only at hp
  refine e_callS (st := []) (as := [.int (a0), .int (0), .int ((hI (h) (33) 1) - (1))]) f87_8 (by decide) rfl rfl (Nat.le_of_ble_eq_true rfl) (Nat.le_of_ble_eq_true rfl) (p166_ok d (h) w (a0) (0) ((hI (h) (33) 1) - (1)) r1 hr2) ?_
  show ex _ 87 (11, [some (.ref (33)), some (.int (a0))], [.int (r1)], h) = _
  by_cases hg3 : (r1) = (0 : Int32) ∨ (r1) = (1 : Int32)
  rotate_left
  · rw [if_neg hg3] at hp; cases hp
  rw [if_pos hg3] at hp
  have hp := Option.some.inj hp
  subst hp
  exact e_ireturn f87_11 (Or.inr hg3)
theorem f59_0 : fetch 59 0 = some (.iconst 0, 0, 0, 0) := rfl
theorem f59_1 : fetch 59 1 = some (.istore 4, 0, 0, 0) := rfl
theorem f59_3 : fetch 59 3 = some (.iload 4, 0, 0, 0) := rfl
theorem f59_5 : fetch 59 5 = some (.iload_n 1, 0, 0, 0) := rfl
theorem f59_6 : fetch 59 6 = some (.if_icmp .ge 82, 88, 0, 0) := rfl
theorem f59_9 : fetch 59 9 = some (.aload_n 0, 0, 0, 0) := rfl
theorem f59_10 : fetch 59 10 = some (.getfield 36, 3, 13, 2) := rfl
theorem f59_13 : fetch 59 13 = some (.iload 4, 0, 0, 0) := rfl
theorem f59_15 : fetch 59 15 = some (.lload_n 2, 0, 0, 0) := rfl
theorem f59_16 : fetch 59 16 = some (.bipush 8, 0, 0, 0) := rfl
theorem f59_18 : fetch 59 18 = some (.iload 4, 0, 0, 0) := rfl
theorem f59_20 : fetch 59 20 = some (.imul, 0, 0, 0) := rfl
theorem f59_21 : fetch 59 21 = some (.lushr, 0, 0, 0) := rfl
theorem f59_22 : fetch 59 22 = some (.ldc2_w 131, 0, 0, 255) := rfl
theorem f59_25 : fetch 59 25 = some (.land, 0, 0, 0) := rfl
theorem f59_26 : fetch 59 26 = some (.l2i, 0, 0, 0) := rfl
theorem f59_27 : fetch 59 27 = some (.iastore, 0, 0, 0) := rfl
theorem f59_28 : fetch 59 28 = some (.aload_n 0, 0, 0, 0) := rfl
theorem f59_29 : fetch 59 29 = some (.getfield 39, 3, 0, 2) := rfl
theorem f59_32 : fetch 59 32 = some (.aload_n 0, 0, 0, 0) := rfl
theorem f59_33 : fetch 59 33 = some (.getfield 36, 3, 13, 2) := rfl
theorem f59_36 : fetch 59 36 = some (.iload 4, 0, 0, 0) := rfl
theorem f59_38 : fetch 59 38 = some (.iaload, 0, 0, 0) := rfl
theorem f59_39 : fetch 59 39 = some (.invokevirtual 133, 87, 1, 0) := rfl
theorem f59_42 : fetch 59 42 = some (.ifCond .ne 5, 47, 0, 0) := rfl
theorem f59_45 : fetch 59 45 = some (.iconst 0, 0, 0, 0) := rfl
theorem f59_46 : fetch 59 46 = some (.ireturn, 0, 0, 1) := rfl
theorem f59_47 : fetch 59 47 = some (.iconst 0, 0, 0, 0) := rfl
theorem f59_48 : fetch 59 48 = some (.istore 5, 0, 0, 0) := rfl
theorem f59_50 : fetch 59 50 = some (.iload 5, 0, 0, 0) := rfl
theorem f59_52 : fetch 59 52 = some (.iload 4, 0, 0, 0) := rfl
theorem f59_54 : fetch 59 54 = some (.if_icmp .ge 28, 82, 0, 0) := rfl
theorem f59_57 : fetch 59 57 = some (.aload_n 0, 0, 0, 0) := rfl
theorem f59_58 : fetch 59 58 = some (.getfield 36, 3, 13, 2) := rfl
theorem f59_61 : fetch 59 61 = some (.iload 5, 0, 0, 0) := rfl
theorem f59_63 : fetch 59 63 = some (.iaload, 0, 0, 0) := rfl
theorem f59_64 : fetch 59 64 = some (.aload_n 0, 0, 0, 0) := rfl
theorem f59_65 : fetch 59 65 = some (.getfield 36, 3, 13, 2) := rfl
theorem f59_68 : fetch 59 68 = some (.iload 4, 0, 0, 0) := rfl
theorem f59_70 : fetch 59 70 = some (.iaload, 0, 0, 0) := rfl
theorem f59_71 : fetch 59 71 = some (.if_icmp .ne 5, 76, 0, 0) := rfl
theorem f59_74 : fetch 59 74 = some (.iconst 0, 0, 0, 0) := rfl
theorem f59_75 : fetch 59 75 = some (.ireturn, 0, 0, 1) := rfl
theorem f59_76 : fetch 59 76 = some (.iinc 5 1, 0, 0, 0) := rfl
theorem f59_79 : fetch 59 79 = some (.goto (-29), 50, 0, 0) := rfl
theorem f59_82 : fetch 59 82 = some (.iinc 4 1, 0, 0, 0) := rfl
theorem f59_85 : fetch 59 85 = some (.goto (-82), 3, 0, 0) := rfl
theorem f59_88 : fetch 59 88 = some (.iconst 1, 0, 0, 0) := rfl
theorem f59_89 : fetch 59 89 = some (.ireturn, 0, 0, 1) := rfl
set_option maxRecDepth 100000 in
set_option maxHeartbeats 4000000 in
theorem p59_L50_ok (d : Nat) (F : Nat) (a0 : Int32) (a1 : Int64) (K3 : HS → Int32 → Option (Int32 × HS)) (hK3 : ∀ (h : HS) (w : WF h) (u4 : Int32) (r : Int32 × HS), K3 h u4 = some r → ex (d + 2) 59 (3, [some (.ref (39)), some (.int (a0)), some (.long (a1)), none, some (.int (u4)), none], [], h) = some (some (.int (r.1)), r.2)) : ∀ (n : Nat) (h : HS) (w : WF h) (v4 : Int32) (v5 : Int32) (r : Int32 × HS), p59_L50 F a0 a1 K3 n h v4 v5 = some r → ex (d + 2) 59 (50, [some (.ref (39)), some (.int (a0)), some (.long (a1)), none, some (.int (v4)), some (.int (v5))], [], h) = some (some (.int (r.1)), r.2) := by
  intro n
  induction n with
  | zero => intro h w v4 v5 r hp; cases hp
  | succ n ih =>
    intro h w v4 v5 r hp
    unfold p59_L50 at hp
    refine e_iload f59_50 rfl ?_
    refine e_iload f59_52 rfl ?_
    by_cases hc10 : (v5) < ((v4) : Int32)
    · rw [if_pos hc10] at hp
      refine e_icmp_ge_f f59_54 hc10 ?_
      refine e_aload_n f59_57 rfl ?_
      refine e_getR f59_58 (WF.t w 39 (by decide)) rfl (WF.r (q := 48) w 39 13 (by decide)) ?_
      refine e_iload f59_61 rfl ?_
      by_cases hg11 : (v5) < (0 : Int32) ∨ 8 ≤ (v5).toNatClampNeg
      · rw [if_pos hg11] at hp; cases hp
      rw [if_neg hg11] at hp
      refine e_iaload f59_63 (Or.inl (WF.t w 48 (by decide))) (WF.n w 48 (by decide)) hg11 ?_
      refine e_aload_n f59_64 rfl ?_
      refine e_getR f59_65 (WF.t w 39 (by decide)) rfl (WF.r (q := 48) w 39 13 (by decide)) ?_
      refine e_iload f59_68 rfl ?_
      by_cases hg12 : (v4) < (0 : Int32) ∨ 8 ≤ (v4).toNatClampNeg
      · rw [if_pos hg12] at hp; cases hp
      rw [if_neg hg12] at hp
      refine e_iaload f59_70 (Or.inl (WF.t w 48 (by decide))) (WF.n w 48 (by decide)) hg12 ?_
      by_cases hc13 : (hI (h) (48) (v5).toNatClampNeg) = ((hI (h) (48) (v4).toNatClampNeg) : Int32)
      · rw [if_pos hc13] at hp
        refine e_icmp_ne_f f59_71 hc13 ?_
        refine e_iconst (v := 0) f59_74 (by decide) ?_
        have hp := Option.some.inj hp
        subst hp
        exact e_ireturn f59_75 (by decide)
      · rw [if_neg hc13] at hp
        refine e_icmp_ne_t f59_71 hc13 ?_
        refine e_iinc (ls2 := [some (.ref (39)), some (.int (a0)), some (.long (a1)), none, some (.int (v4)), some (.int ((v5) + 1))]) f59_76 (by decide) rfl rfl ?_
        refine e_goto f59_79 ?_
        refine ex_weak (ls := [some (.ref (39)), some (.int (a0)), some (.long (a1)), none, some (.int (v4)), some (.int ((v5) + 1))]) (le2_ok ⟨Or.inr rfl, Or.inr rfl, Or.inr rfl, Or.inl rfl, Or.inr rfl, Or.inr rfl, trivial⟩) ?_
        exact ih (h) (w) (v4) ((v5) + 1) _ hp
    · rw [if_neg hc10] at hp
      refine e_icmp_ge_t f59_54 hc10 ?_
      refine e_iinc (ls2 := [some (.ref (39)), some (.int (a0)), some (.long (a1)), none, some (.int ((v4) + 1)), some (.int (v5))]) f59_82 (by decide) rfl rfl ?_
      refine e_goto f59_85 ?_
      refine ex_weak (ls := [some (.ref (39)), some (.int (a0)), some (.long (a1)), none, some (.int ((v4) + 1)), none]) (le2_ok ⟨Or.inr rfl, Or.inr rfl, Or.inr rfl, Or.inl rfl, Or.inr rfl, Or.inl rfl, trivial⟩) ?_
      exact hK3 (h) (w) ((v4) + 1) _ hp
set_option maxRecDepth 100000 in
set_option maxHeartbeats 4000000 in
theorem p59_L50_w (F : Nat) (a0 : Int32) (a1 : Int64) (K3 : HS → Int32 → Option (Int32 × HS)) (hK3 : ∀ (h : HS) (w : WF h) (u4 : Int32) (r : Int32 × HS), K3 h u4 = some r → WF r.2) : ∀ (n : Nat) (h : HS) (w : WF h) (v4 : Int32) (v5 : Int32) (r : Int32 × HS), p59_L50 F a0 a1 K3 n h v4 v5 = some r → WF r.2 := by
  intro n
  induction n with
  | zero => intro h w v4 v5 r hp; cases hp
  | succ n ih =>
    intro h w v4 v5 r hp
    unfold p59_L50 at hp
    by_cases hc10 : (v5) < ((v4) : Int32)
    · rw [if_pos hc10] at hp
      by_cases hg11 : (v5) < (0 : Int32) ∨ 8 ≤ (v5).toNatClampNeg
      · rw [if_pos hg11] at hp; cases hp
      rw [if_neg hg11] at hp
      by_cases hg12 : (v4) < (0 : Int32) ∨ 8 ≤ (v4).toNatClampNeg
      · rw [if_pos hg12] at hp; cases hp
      rw [if_neg hg12] at hp
      by_cases hc13 : (hI (h) (48) (v5).toNatClampNeg) = ((hI (h) (48) (v4).toNatClampNeg) : Int32)
      · rw [if_pos hc13] at hp
        have hp := Option.some.inj hp
        subst hp
        exact (w)
      · rw [if_neg hc13] at hp
        exact ih (h) (w) (v4) ((v5) + 1) _ hp
    · rw [if_neg hc10] at hp
      exact hK3 (h) (w) ((v4) + 1) _ hp
set_option maxRecDepth 100000 in
set_option maxHeartbeats 4000000 in
theorem p59_L3_ok (d : Nat) (F : Nat) (a0 : Int32) (a1 : Int64) : ∀ (n : Nat) (h : HS) (w : WF h) (v4 : Int32) (r : Int32 × HS), p59_L3 F a0 a1 n h v4 = some r → ex (d + 2) 59 (3, [some (.ref (39)), some (.int (a0)), some (.long (a1)), none, some (.int (v4)), none], [], h) = some (some (.int (r.1)), r.2) := by
  intro n
  induction n with
  | zero => intro h w v4 r hp; cases hp
  | succ n ih =>
    intro h w v4 r hp
    unfold p59_L3 at hp
    refine e_iload f59_3 rfl ?_
    refine e_iload_n f59_5 rfl ?_
    by_cases hc1 : (v4) < ((a0) : Int32)
    · rw [if_pos hc1] at hp
      refine e_icmp_ge_f f59_6 hc1 ?_
      refine e_aload_n f59_9 rfl ?_
      refine e_getR f59_10 (WF.t w 39 (by decide)) rfl (WF.r (q := 48) w 39 13 (by decide)) ?_
      refine e_iload f59_13 rfl ?_
      refine e_lload_n f59_15 rfl ?_
      refine e_bipush (v := 8) f59_16 (by decide) ?_
      refine e_iload f59_18 rfl ?_
      refine e_imul f59_20 ?_
      refine e_lushr f59_21 ?_
      refine e_ldc2 (v := 255) f59_22 (by decide) ?_
      refine e_land f59_25 ?_
      refine e_l2i f59_26 ?_
      by_cases hg2 : (v4) < (0 : Int32) ∨ 8 ≤ (v4).toNatClampNeg
      · rw [if_pos hg2] at hp; cases hp
      rw [if_neg hg2] at hp
      refine e_iastore f59_27 (WF.t w 48 (by decide)) (WF.n w 48 (by decide)) hg2 ?_
      obtain ⟨h3, e4, hp⟩ := bind_some hp
      try dsimp only at hp
      have e4 := Option.some.inj e4
      have w5 : WF h3 := e4 ▸ w
      rw [e4]
      refine e_aload_n f59_28 rfl ?_
      refine e_getR f59_29 (WF.t w5 39 (by decide)) rfl (WF.r (q := 33) w5 39 0 (by decide)) ?_
      refine e_aload_n f59_32 rfl ?_
      refine e_getR f59_33 (WF.t w5 39 (by decide)) rfl (WF.r (q := 48) w5 39 13 (by decide)) ?_
      refine e_iload f59_36 rfl ?_
      by_cases hg6 : (v4) < (0 : Int32) ∨ 8 ≤ (v4).toNatClampNeg
      · rw [if_pos hg6] at hp; cases hp
      rw [if_neg hg6] at hp
      refine e_iaload f59_38 (Or.inl (WF.t w5 48 (by decide))) (WF.n w5 48 (by decide)) hg6 ?_
      obtain ⟨r7, hr8, hp⟩ := bind_some hp
      try dsimp only at hp
      refine e_callV (st := []) (o := 33) (as := [.int (hI (h3) (48) (v4).toNatClampNeg)]) f59_39 (by decide) rfl rfl (Nat.le_of_ble_eq_true rfl) (WF.t w5 33 (by decide)) (Nat.le_of_ble_eq_true rfl) (p87_ok d (h3) w5 (hI (h3) (48) (v4).toNatClampNeg) r7 hr8) ?_
      show ex _ 59 (42, [some (.ref (39)), some (.int (a0)), some (.long (a1)), none, some (.int (v4)), none], [.int (r7)], h3) = _
      by_cases hc9 : (r7) = (0 : Int32)
      · rw [if_pos hc9] at hp
        refine e_if_ne_f f59_42 hc9 ?_
        refine e_iconst (v := 0) f59_45 (by decide) ?_
        have hp := Option.some.inj hp
        subst hp
        exact e_ireturn f59_46 (by decide)
      · rw [if_neg hc9] at hp
        refine e_if_ne_t f59_42 hc9 ?_
        refine e_iconst (v := 0) f59_47 (by decide) ?_
        refine e_istore (ls2 := [some (.ref (39)), some (.int (a0)), some (.long (a1)), none, some (.int (v4)), some (.int (0))]) f59_48 (Nat.le_of_ble_eq_true rfl) rfl ?_
        refine ex_weak (ls := [some (.ref (39)), some (.int (a0)), some (.long (a1)), none, some (.int (v4)), some (.int (0))]) (le2_ok ⟨Or.inr rfl, Or.inr rfl, Or.inr rfl, Or.inl rfl, Or.inr rfl, Or.inr rfl, trivial⟩) ?_
        exact p59_L50_ok d F a0 a1 ((p59_L3 F a0 a1 n)) (ih) F (h3) (w5) (v4) (0) _ hp
    · rw [if_neg hc1] at hp
      refine e_icmp_ge_t f59_6 hc1 ?_
      refine e_iconst (v := 1) f59_88 (by decide) ?_
      have hp := Option.some.inj hp
      subst hp
      exact e_ireturn f59_89 (by decide)
set_option maxRecDepth 100000 in
set_option maxHeartbeats 4000000 in
theorem p59_L3_w (F : Nat) (a0 : Int32) (a1 : Int64) : ∀ (n : Nat) (h : HS) (w : WF h) (v4 : Int32) (r : Int32 × HS), p59_L3 F a0 a1 n h v4 = some r → WF r.2 := by
  intro n
  induction n with
  | zero => intro h w v4 r hp; cases hp
  | succ n ih =>
    intro h w v4 r hp
    unfold p59_L3 at hp
    by_cases hc1 : (v4) < ((a0) : Int32)
    · rw [if_pos hc1] at hp
      by_cases hg2 : (v4) < (0 : Int32) ∨ 8 ≤ (v4).toNatClampNeg
      · rw [if_pos hg2] at hp; cases hp
      rw [if_neg hg2] at hp
      obtain ⟨h3, e4, hp⟩ := bind_some hp
      try dsimp only at hp
      have e4 := Option.some.inj e4
      have w5 : WF h3 := e4 ▸ w
      by_cases hg6 : (v4) < (0 : Int32) ∨ 8 ≤ (v4).toNatClampNeg
      · rw [if_pos hg6] at hp; cases hp
      rw [if_neg hg6] at hp
      obtain ⟨r7, hr8, hp⟩ := bind_some hp
      try dsimp only at hp
      by_cases hc9 : (r7) = (0 : Int32)
      · rw [if_pos hc9] at hp
        have hp := Option.some.inj hp
        subst hp
        exact (w5)
      · rw [if_neg hc9] at hp
        exact p59_L50_w F a0 a1 ((p59_L3 F a0 a1 n)) (ih) F (h3) (w5) (v4) (0) _ hp
    · rw [if_neg hc1] at hp
      have hp := Option.some.inj hp
      subst hp
      exact (w)
set_option maxRecDepth 100000 in
set_option maxHeartbeats 4000000 in
theorem p59_ok (d : Nat) (F : Nat) (h : HS) (w : WF h) (a0 : Int32) (a1 : Int64) (r : Int32 × HS) (hp : p59 F h a0 a1 = some r) : ex (d + 2) 59 (ent 59 [.ref (39), .int (a0), .long (a1)] h) = some (some (.int (r.1)), r.2) := by
  rw [show ent 59 [.ref (39), .int (a0), .long (a1)] h = (0, [some (.ref (39)), some (.int (a0)), some (.long (a1)), none, none, none], [], h) from by  rfl]
  refine ex_weak (ls := [some (.ref (39)), some (.int (a0)), some (.long (a1)), none, none, none]) (le2_ok ⟨Or.inr rfl, Or.inr rfl, Or.inr rfl, Or.inr rfl, Or.inr rfl, Or.inr rfl, trivial⟩) ?_
  unfold p59 at hp
  refine e_iconst (v := 0) f59_0 (by decide) ?_
  refine e_istore (ls2 := [some (.ref (39)), some (.int (a0)), some (.long (a1)), none, some (.int (0)), none]) f59_1 (Nat.le_of_ble_eq_true rfl) rfl ?_
  refine ex_weak (ls := [some (.ref (39)), some (.int (a0)), some (.long (a1)), none, some (.int (0)), none]) (le2_ok ⟨Or.inr rfl, Or.inr rfl, Or.inr rfl, Or.inl rfl, Or.inr rfl, Or.inl rfl, trivial⟩) ?_
  exact p59_L3_ok d F a0 a1 F (h) (w) (0) _ hp
set_option maxRecDepth 100000 in
set_option maxHeartbeats 4000000 in
theorem p59_w (F : Nat) (h : HS) (w : WF h) (a0 : Int32) (a1 : Int64) (r : Int32 × HS) (hp : p59 F h a0 a1 = some r) : WF r.2 := by
  unfold p59 at hp
  exact p59_L3_w F a0 a1 F (h) (w) (0) _ hp
theorem f58_0 : fetch 58 0 = some (.iload_n 1, 0, 0, 0) := rfl
theorem f58_1 : fetch 58 1 = some (.iload_n 2, 0, 0, 0) := rfl
theorem f58_2 : fetch 58 2 = some (.invokestatic 53, 43, 2, 1) := rfl
theorem f58_5 : fetch 58 5 = some (.ifCond .eq 14, 19, 0, 0) := rfl
theorem f58_8 : fetch 58 8 = some (.aload_n 0, 0, 0, 0) := rfl
theorem f58_9 : fetch 58 9 = some (.iload_n 1, 0, 0, 0) := rfl
theorem f58_10 : fetch 58 10 = some (.iload_n 2, 0, 0, 0) := rfl
theorem f58_11 : fetch 58 11 = some (.imul, 0, 0, 0) := rfl
theorem f58_12 : fetch 58 12 = some (.lload_n 3, 0, 0, 0) := rfl
theorem f58_13 : fetch 58 13 = some (.invokevirtual 127, 59, 2, 0) := rfl
theorem f58_16 : fetch 58 16 = some (.ifCond .ne 5, 21, 0, 0) := rfl
theorem f58_19 : fetch 58 19 = some (.iconst (-1), 0, 0, 0) := rfl
theorem f58_20 : fetch 58 20 = some (.ireturn, 0, 0, 0) := rfl
theorem f58_21 : fetch 58 21 = some (.iconst 0, 0, 0, 0) := rfl
theorem f58_22 : fetch 58 22 = some (.istore 5, 0, 0, 0) := rfl
theorem f58_24 : fetch 58 24 = some (.iconst 0, 0, 0, 0) := rfl
theorem f58_25 : fetch 58 25 = some (.istore 6, 0, 0, 0) := rfl
theorem f58_27 : fetch 58 27 = some (.iload 6, 0, 0, 0) := rfl
theorem f58_29 : fetch 58 29 = some (.iload_n 1, 0, 0, 0) := rfl
theorem f58_30 : fetch 58 30 = some (.iload_n 2, 0, 0, 0) := rfl
theorem f58_31 : fetch 58 31 = some (.imul, 0, 0, 0) := rfl
theorem f58_32 : fetch 58 32 = some (.if_icmp .ge 80, 112, 0, 0) := rfl
theorem f58_35 : fetch 58 35 = some (.iload 6, 0, 0, 0) := rfl
theorem f58_37 : fetch 58 37 = some (.iload_n 1, 0, 0, 0) := rfl
theorem f58_38 : fetch 58 38 = some (.irem, 0, 0, 0) := rfl
theorem f58_39 : fetch 58 39 = some (.ifCond .le 32, 71, 0, 0) := rfl
theorem f58_42 : fetch 58 42 = some (.aload_n 0, 0, 0, 0) := rfl
theorem f58_43 : fetch 58 43 = some (.getfield 39, 3, 0, 2) := rfl
theorem f58_46 : fetch 58 46 = some (.aload_n 0, 0, 0, 0) := rfl
theorem f58_47 : fetch 58 47 = some (.getfield 36, 3, 13, 2) := rfl
theorem f58_50 : fetch 58 50 = some (.iload 6, 0, 0, 0) := rfl
theorem f58_52 : fetch 58 52 = some (.iconst 1, 0, 0, 0) := rfl
theorem f58_53 : fetch 58 53 = some (.isub, 0, 0, 0) := rfl
theorem f58_54 : fetch 58 54 = some (.iaload, 0, 0, 0) := rfl
theorem f58_55 : fetch 58 55 = some (.aload_n 0, 0, 0, 0) := rfl
theorem f58_56 : fetch 58 56 = some (.getfield 36, 3, 13, 2) := rfl
theorem f58_59 : fetch 58 59 = some (.iload 6, 0, 0, 0) := rfl
theorem f58_61 : fetch 58 61 = some (.iaload, 0, 0, 0) := rfl
theorem f58_62 : fetch 58 62 = some (.invokevirtual 94, 89, 2, 0) := rfl
theorem f58_65 : fetch 58 65 = some (.ifCond .eq 6, 71, 0, 0) := rfl
theorem f58_68 : fetch 58 68 = some (.iinc 5 1, 0, 0, 0) := rfl
theorem f58_71 : fetch 58 71 = some (.iload 6, 0, 0, 0) := rfl
theorem f58_73 : fetch 58 73 = some (.iload_n 1, 0, 0, 0) := rfl
theorem f58_74 : fetch 58 74 = some (.if_icmp .lt 32, 106, 0, 0) := rfl
theorem f58_77 : fetch 58 77 = some (.aload_n 0, 0, 0, 0) := rfl
theorem f58_78 : fetch 58 78 = some (.getfield 39, 3, 0, 2) := rfl
theorem f58_81 : fetch 58 81 = some (.aload_n 0, 0, 0, 0) := rfl
theorem f58_82 : fetch 58 82 = some (.getfield 36, 3, 13, 2) := rfl
theorem f58_85 : fetch 58 85 = some (.iload 6, 0, 0, 0) := rfl
theorem f58_87 : fetch 58 87 = some (.iload_n 1, 0, 0, 0) := rfl
theorem f58_88 : fetch 58 88 = some (.isub, 0, 0, 0) := rfl
theorem f58_89 : fetch 58 89 = some (.iaload, 0, 0, 0) := rfl
theorem f58_90 : fetch 58 90 = some (.aload_n 0, 0, 0, 0) := rfl
theorem f58_91 : fetch 58 91 = some (.getfield 36, 3, 13, 2) := rfl
theorem f58_94 : fetch 58 94 = some (.iload 6, 0, 0, 0) := rfl
theorem f58_96 : fetch 58 96 = some (.iaload, 0, 0, 0) := rfl
theorem f58_97 : fetch 58 97 = some (.invokevirtual 97, 90, 2, 0) := rfl
theorem f58_100 : fetch 58 100 = some (.ifCond .eq 6, 106, 0, 0) := rfl
theorem f58_103 : fetch 58 103 = some (.iinc 5 1, 0, 0, 0) := rfl
theorem f58_106 : fetch 58 106 = some (.iinc 6 1, 0, 0, 0) := rfl
theorem f58_109 : fetch 58 109 = some (.goto (-82), 27, 0, 0) := rfl
theorem f58_112 : fetch 58 112 = some (.iload 5, 0, 0, 0) := rfl
theorem f58_114 : fetch 58 114 = some (.ireturn, 0, 0, 0) := rfl
set_option maxRecDepth 100000 in
set_option maxHeartbeats 4000000 in
theorem p58_j106_ok (d : Nat) (F : Nat) (a0 : Int32) (a1 : Int32) (a2 : Int64) (K27 : HS → Int32 → Int32 → Option (Int32 × HS)) (hK27 : ∀ (h : HS) (w : WF h) (u5 : Int32) (u6 : Int32) (r : Int32 × HS), K27 h u5 u6 = some r → ex (d + 3) 58 (27, [some (.ref (39)), some (.int (a0)), some (.int (a1)), none, none, some (.int (u5)), some (.int (u6))], [], h) = some (some (.int (r.1)), r.2)) (h : HS) (w : WF h) (v5 : Int32) (v6 : Int32) (r : Int32 × HS) (hp : p58_j106 F a0 a1 a2 K27 h v5 v6 = some r) : ex (d + 3) 58 (106, [some (.ref (39)), some (.int (a0)), some (.int (a1)), none, none, some (.int (v5)), some (.int (v6))], [], h) = some (some (.int (r.1)), r.2) := by
  unfold p58_j106 at hp
  refine e_iinc (ls2 := [some (.ref (39)), some (.int (a0)), some (.int (a1)), none, none, some (.int (v5)), some (.int ((v6) + 1))]) f58_106 (by decide) rfl rfl ?_
  refine e_goto f58_109 ?_
  refine ex_weak (ls := [some (.ref (39)), some (.int (a0)), some (.int (a1)), none, none, some (.int (v5)), some (.int ((v6) + 1))]) (le2_ok ⟨Or.inr rfl, Or.inr rfl, Or.inr rfl, Or.inl rfl, Or.inl rfl, Or.inr rfl, Or.inr rfl, trivial⟩) ?_
  exact hK27 (h) (w) (v5) ((v6) + 1) _ hp
set_option maxRecDepth 100000 in
set_option maxHeartbeats 4000000 in
theorem p58_j106_w (F : Nat) (a0 : Int32) (a1 : Int32) (a2 : Int64) (K27 : HS → Int32 → Int32 → Option (Int32 × HS)) (hK27 : ∀ (h : HS) (w : WF h) (u5 : Int32) (u6 : Int32) (r : Int32 × HS), K27 h u5 u6 = some r → WF r.2) (h : HS) (w : WF h) (v5 : Int32) (v6 : Int32) (r : Int32 × HS) (hp : p58_j106 F a0 a1 a2 K27 h v5 v6 = some r) : WF r.2 := by
  unfold p58_j106 at hp
  exact hK27 (h) (w) (v5) ((v6) + 1) _ hp
set_option maxRecDepth 100000 in
set_option maxHeartbeats 4000000 in
theorem p58_j71_ok (d : Nat) (F : Nat) (a0 : Int32) (a1 : Int32) (a2 : Int64) (K27 : HS → Int32 → Int32 → Option (Int32 × HS)) (hK27 : ∀ (h : HS) (w : WF h) (u5 : Int32) (u6 : Int32) (r : Int32 × HS), K27 h u5 u6 = some r → ex (d + 3) 58 (27, [some (.ref (39)), some (.int (a0)), some (.int (a1)), none, none, some (.int (u5)), some (.int (u6))], [], h) = some (some (.int (r.1)), r.2)) (h : HS) (w : WF h) (v5 : Int32) (v6 : Int32) (r : Int32 × HS) (hp : p58_j71 F a0 a1 a2 K27 h v5 v6 = some r) : ex (d + 3) 58 (71, [some (.ref (39)), some (.int (a0)), some (.int (a1)), none, none, some (.int (v5)), some (.int (v6))], [], h) = some (some (.int (r.1)), r.2) := by
  unfold p58_j71 at hp
  refine e_iload f58_71 rfl ?_
  refine e_iload_n f58_73 rfl ?_
  by_cases hc15 : (v6) < ((a0) : Int32)
  · rw [if_pos hc15] at hp
    refine e_icmp_lt_t f58_74 hc15 ?_
    refine ex_weak (ls := [some (.ref (39)), some (.int (a0)), some (.int (a1)), none, none, some (.int (v5)), some (.int (v6))]) (le2_ok ⟨Or.inr rfl, Or.inr rfl, Or.inr rfl, Or.inl rfl, Or.inl rfl, Or.inr rfl, Or.inr rfl, trivial⟩) ?_
    exact p58_j106_ok d F a0 a1 a2 (K27) (hK27) (h) (w) (v5) (v6) _ hp
  · rw [if_neg hc15] at hp
    refine e_icmp_lt_f f58_74 hc15 ?_
    refine e_aload_n f58_77 rfl ?_
    refine e_getR f58_78 (WF.t w 39 (by decide)) rfl (WF.r (q := 33) w 39 0 (by decide)) ?_
    refine e_aload_n f58_81 rfl ?_
    refine e_getR f58_82 (WF.t w 39 (by decide)) rfl (WF.r (q := 48) w 39 13 (by decide)) ?_
    refine e_iload f58_85 rfl ?_
    refine e_iload_n f58_87 rfl ?_
    refine e_isub f58_88 ?_
    by_cases hg16 : ((v6) - (a0)) < (0 : Int32) ∨ 8 ≤ ((v6) - (a0)).toNatClampNeg
    · rw [if_pos hg16] at hp; cases hp
    rw [if_neg hg16] at hp
    refine e_iaload f58_89 (Or.inl (WF.t w 48 (by decide))) (WF.n w 48 (by decide)) hg16 ?_
    refine e_aload_n f58_90 rfl ?_
    refine e_getR f58_91 (WF.t w 39 (by decide)) rfl (WF.r (q := 48) w 39 13 (by decide)) ?_
    refine e_iload f58_94 rfl ?_
    by_cases hg17 : (v6) < (0 : Int32) ∨ 8 ≤ (v6).toNatClampNeg
    · rw [if_pos hg17] at hp; cases hp
    rw [if_neg hg17] at hp
    refine e_iaload f58_96 (Or.inl (WF.t w 48 (by decide))) (WF.n w 48 (by decide)) hg17 ?_
    obtain ⟨r18, hr19, hp⟩ := bind_some hp
    try dsimp only at hp
    refine e_callV (st := []) (o := 33) (as := [.int (hI (h) (48) ((v6) - (a0)).toNatClampNeg), .int (hI (h) (48) (v6).toNatClampNeg)]) f58_97 (by decide) rfl rfl (Nat.le_of_ble_eq_true rfl) (WF.t w 33 (by decide)) (Nat.le_of_ble_eq_true rfl) (p90_ok (d + 1) (h) w (hI (h) (48) ((v6) - (a0)).toNatClampNeg) (hI (h) (48) (v6).toNatClampNeg) r18 hr19) ?_
    show ex _ 58 (100, [some (.ref (39)), some (.int (a0)), some (.int (a1)), none, none, some (.int (v5)), some (.int (v6))], [.int (r18)], h) = _
    by_cases hc20 : (r18) = (0 : Int32)
    · rw [if_pos hc20] at hp
      refine e_if_eq_t f58_100 hc20 ?_
      refine ex_weak (ls := [some (.ref (39)), some (.int (a0)), some (.int (a1)), none, none, some (.int (v5)), some (.int (v6))]) (le2_ok ⟨Or.inr rfl, Or.inr rfl, Or.inr rfl, Or.inl rfl, Or.inl rfl, Or.inr rfl, Or.inr rfl, trivial⟩) ?_
      exact p58_j106_ok d F a0 a1 a2 (K27) (hK27) (h) (w) (v5) (v6) _ hp
    · rw [if_neg hc20] at hp
      refine e_if_eq_f f58_100 hc20 ?_
      refine e_iinc (ls2 := [some (.ref (39)), some (.int (a0)), some (.int (a1)), none, none, some (.int ((v5) + 1)), some (.int (v6))]) f58_103 (by decide) rfl rfl ?_
      refine ex_weak (ls := [some (.ref (39)), some (.int (a0)), some (.int (a1)), none, none, some (.int ((v5) + 1)), some (.int (v6))]) (le2_ok ⟨Or.inr rfl, Or.inr rfl, Or.inr rfl, Or.inl rfl, Or.inl rfl, Or.inr rfl, Or.inr rfl, trivial⟩) ?_
      exact p58_j106_ok d F a0 a1 a2 (K27) (hK27) (h) (w) ((v5) + 1) (v6) _ hp
set_option maxRecDepth 100000 in
set_option maxHeartbeats 4000000 in
theorem p58_j71_w (F : Nat) (a0 : Int32) (a1 : Int32) (a2 : Int64) (K27 : HS → Int32 → Int32 → Option (Int32 × HS)) (hK27 : ∀ (h : HS) (w : WF h) (u5 : Int32) (u6 : Int32) (r : Int32 × HS), K27 h u5 u6 = some r → WF r.2) (h : HS) (w : WF h) (v5 : Int32) (v6 : Int32) (r : Int32 × HS) (hp : p58_j71 F a0 a1 a2 K27 h v5 v6 = some r) : WF r.2 := by
  unfold p58_j71 at hp
  by_cases hc15 : (v6) < ((a0) : Int32)
  · rw [if_pos hc15] at hp
    exact p58_j106_w F a0 a1 a2 (K27) (hK27) (h) (w) (v5) (v6) _ hp
  · rw [if_neg hc15] at hp
    by_cases hg16 : ((v6) - (a0)) < (0 : Int32) ∨ 8 ≤ ((v6) - (a0)).toNatClampNeg
    · rw [if_pos hg16] at hp; cases hp
    rw [if_neg hg16] at hp
    by_cases hg17 : (v6) < (0 : Int32) ∨ 8 ≤ (v6).toNatClampNeg
    · rw [if_pos hg17] at hp; cases hp
    rw [if_neg hg17] at hp
    obtain ⟨r18, hr19, hp⟩ := bind_some hp
    try dsimp only at hp
    by_cases hc20 : (r18) = (0 : Int32)
    · rw [if_pos hc20] at hp
      exact p58_j106_w F a0 a1 a2 (K27) (hK27) (h) (w) (v5) (v6) _ hp
    · rw [if_neg hc20] at hp
      exact p58_j106_w F a0 a1 a2 (K27) (hK27) (h) (w) ((v5) + 1) (v6) _ hp
set_option maxRecDepth 100000 in
set_option maxHeartbeats 4000000 in
theorem p58_L27_ok (d : Nat) (F : Nat) (a0 : Int32) (a1 : Int32) (a2 : Int64) : ∀ (n : Nat) (h : HS) (w : WF h) (v5 : Int32) (v6 : Int32) (r : Int32 × HS), p58_L27 F a0 a1 a2 n h v5 v6 = some r → ex (d + 3) 58 (27, [some (.ref (39)), some (.int (a0)), some (.int (a1)), none, none, some (.int (v5)), some (.int (v6))], [], h) = some (some (.int (r.1)), r.2) := by
  intro n
  induction n with
  | zero => intro h w v5 v6 r hp; cases hp
  | succ n ih =>
    intro h w v5 v6 r hp
    unfold p58_L27 at hp
    refine e_iload f58_27 rfl ?_
    refine e_iload_n f58_29 rfl ?_
    refine e_iload_n f58_30 rfl ?_
    refine e_imul f58_31 ?_
    by_cases hc7 : (v6) < (((a0) * (a1)) : Int32)
    · rw [if_pos hc7] at hp
      refine e_icmp_ge_f f58_32 hc7 ?_
      refine e_iload f58_35 rfl ?_
      refine e_iload_n f58_37 rfl ?_
      by_cases hg8 : (a0) = (0 : Int32)
      · rw [if_pos hg8] at hp; cases hp
      rw [if_neg hg8] at hp
      refine e_irem f58_38 hg8 ?_
      by_cases hc9 : (0 : Int32) < ((v6) - (v6) / (a0) * (a0))
      · rw [if_pos hc9] at hp
        refine e_if_le_f f58_39 hc9 ?_
        refine e_aload_n f58_42 rfl ?_
        refine e_getR f58_43 (WF.t w 39 (by decide)) rfl (WF.r (q := 33) w 39 0 (by decide)) ?_
        refine e_aload_n f58_46 rfl ?_
        refine e_getR f58_47 (WF.t w 39 (by decide)) rfl (WF.r (q := 48) w 39 13 (by decide)) ?_
        refine e_iload f58_50 rfl ?_
        refine e_iconst (v := 1) f58_52 (by decide) ?_
        refine e_isub f58_53 ?_
        by_cases hg10 : ((v6) - (1)) < (0 : Int32) ∨ 8 ≤ ((v6) - (1)).toNatClampNeg
        · rw [if_pos hg10] at hp; cases hp
        rw [if_neg hg10] at hp
        refine e_iaload f58_54 (Or.inl (WF.t w 48 (by decide))) (WF.n w 48 (by decide)) hg10 ?_
        refine e_aload_n f58_55 rfl ?_
        refine e_getR f58_56 (WF.t w 39 (by decide)) rfl (WF.r (q := 48) w 39 13 (by decide)) ?_
        refine e_iload f58_59 rfl ?_
        by_cases hg11 : (v6) < (0 : Int32) ∨ 8 ≤ (v6).toNatClampNeg
        · rw [if_pos hg11] at hp; cases hp
        rw [if_neg hg11] at hp
        refine e_iaload f58_61 (Or.inl (WF.t w 48 (by decide))) (WF.n w 48 (by decide)) hg11 ?_
        obtain ⟨r12, hr13, hp⟩ := bind_some hp
        try dsimp only at hp
        refine e_callV (st := []) (o := 33) (as := [.int (hI (h) (48) ((v6) - (1)).toNatClampNeg), .int (hI (h) (48) (v6).toNatClampNeg)]) f58_62 (by decide) rfl rfl (Nat.le_of_ble_eq_true rfl) (WF.t w 33 (by decide)) (Nat.le_of_ble_eq_true rfl) (p89_ok (d + 1) (h) w (hI (h) (48) ((v6) - (1)).toNatClampNeg) (hI (h) (48) (v6).toNatClampNeg) r12 hr13) ?_
        show ex _ 58 (65, [some (.ref (39)), some (.int (a0)), some (.int (a1)), none, none, some (.int (v5)), some (.int (v6))], [.int (r12)], h) = _
        by_cases hc14 : (r12) = (0 : Int32)
        · rw [if_pos hc14] at hp
          refine e_if_eq_t f58_65 hc14 ?_
          refine ex_weak (ls := [some (.ref (39)), some (.int (a0)), some (.int (a1)), none, none, some (.int (v5)), some (.int (v6))]) (le2_ok ⟨Or.inr rfl, Or.inr rfl, Or.inr rfl, Or.inl rfl, Or.inl rfl, Or.inr rfl, Or.inr rfl, trivial⟩) ?_
          exact p58_j71_ok d F a0 a1 a2 ((p58_L27 F a0 a1 a2 n)) (ih) (h) (w) (v5) (v6) _ hp
        · rw [if_neg hc14] at hp
          refine e_if_eq_f f58_65 hc14 ?_
          refine e_iinc (ls2 := [some (.ref (39)), some (.int (a0)), some (.int (a1)), none, none, some (.int ((v5) + 1)), some (.int (v6))]) f58_68 (by decide) rfl rfl ?_
          refine ex_weak (ls := [some (.ref (39)), some (.int (a0)), some (.int (a1)), none, none, some (.int ((v5) + 1)), some (.int (v6))]) (le2_ok ⟨Or.inr rfl, Or.inr rfl, Or.inr rfl, Or.inl rfl, Or.inl rfl, Or.inr rfl, Or.inr rfl, trivial⟩) ?_
          exact p58_j71_ok d F a0 a1 a2 ((p58_L27 F a0 a1 a2 n)) (ih) (h) (w) ((v5) + 1) (v6) _ hp
      · rw [if_neg hc9] at hp
        refine e_if_le_t f58_39 hc9 ?_
        refine ex_weak (ls := [some (.ref (39)), some (.int (a0)), some (.int (a1)), none, none, some (.int (v5)), some (.int (v6))]) (le2_ok ⟨Or.inr rfl, Or.inr rfl, Or.inr rfl, Or.inl rfl, Or.inl rfl, Or.inr rfl, Or.inr rfl, trivial⟩) ?_
        exact p58_j71_ok d F a0 a1 a2 ((p58_L27 F a0 a1 a2 n)) (ih) (h) (w) (v5) (v6) _ hp
    · rw [if_neg hc7] at hp
      refine e_icmp_ge_t f58_32 hc7 ?_
      refine e_iload f58_112 rfl ?_
      have hp := Option.some.inj hp
      subst hp
      exact e_ireturn f58_114 (Or.inl rfl)
set_option maxRecDepth 100000 in
set_option maxHeartbeats 4000000 in
theorem p58_L27_w (F : Nat) (a0 : Int32) (a1 : Int32) (a2 : Int64) : ∀ (n : Nat) (h : HS) (w : WF h) (v5 : Int32) (v6 : Int32) (r : Int32 × HS), p58_L27 F a0 a1 a2 n h v5 v6 = some r → WF r.2 := by
  intro n
  induction n with
  | zero => intro h w v5 v6 r hp; cases hp
  | succ n ih =>
    intro h w v5 v6 r hp
    unfold p58_L27 at hp
    by_cases hc7 : (v6) < (((a0) * (a1)) : Int32)
    · rw [if_pos hc7] at hp
      by_cases hg8 : (a0) = (0 : Int32)
      · rw [if_pos hg8] at hp; cases hp
      rw [if_neg hg8] at hp
      by_cases hc9 : (0 : Int32) < ((v6) - (v6) / (a0) * (a0))
      · rw [if_pos hc9] at hp
        by_cases hg10 : ((v6) - (1)) < (0 : Int32) ∨ 8 ≤ ((v6) - (1)).toNatClampNeg
        · rw [if_pos hg10] at hp; cases hp
        rw [if_neg hg10] at hp
        by_cases hg11 : (v6) < (0 : Int32) ∨ 8 ≤ (v6).toNatClampNeg
        · rw [if_pos hg11] at hp; cases hp
        rw [if_neg hg11] at hp
        obtain ⟨r12, hr13, hp⟩ := bind_some hp
        try dsimp only at hp
        by_cases hc14 : (r12) = (0 : Int32)
        · rw [if_pos hc14] at hp
          exact p58_j71_w F a0 a1 a2 ((p58_L27 F a0 a1 a2 n)) (ih) (h) (w) (v5) (v6) _ hp
        · rw [if_neg hc14] at hp
          exact p58_j71_w F a0 a1 a2 ((p58_L27 F a0 a1 a2 n)) (ih) (h) (w) ((v5) + 1) (v6) _ hp
      · rw [if_neg hc9] at hp
        exact p58_j71_w F a0 a1 a2 ((p58_L27 F a0 a1 a2 n)) (ih) (h) (w) (v5) (v6) _ hp
    · rw [if_neg hc7] at hp
      have hp := Option.some.inj hp
      subst hp
      exact (w)
set_option maxRecDepth 100000 in
set_option maxHeartbeats 4000000 in
theorem p58_ok (d : Nat) (F : Nat) (h : HS) (w : WF h) (a0 : Int32) (a1 : Int32) (a2 : Int64) (r : Int32 × HS) (hp : p58 F h a0 a1 a2 = some r) : ex (d + 3) 58 (ent 58 [.ref (39), .int (a0), .int (a1), .long (a2)] h) = some (some (.int (r.1)), r.2) := by
  rw [show ent 58 [.ref (39), .int (a0), .int (a1), .long (a2)] h = (0, [some (.ref (39)), some (.int (a0)), some (.int (a1)), some (.long (a2)), none, none, none], [], h) from by  rfl]
  refine ex_weak (ls := [some (.ref (39)), some (.int (a0)), some (.int (a1)), some (.long (a2)), none, none, none]) (le2_ok ⟨Or.inr rfl, Or.inr rfl, Or.inr rfl, Or.inr rfl, Or.inr rfl, Or.inr rfl, Or.inr rfl, trivial⟩) ?_
  unfold p58 at hp
  refine e_iload_n f58_0 rfl ?_
  refine e_iload_n f58_1 rfl ?_
  obtain ⟨r1, hr2, hp⟩ := bind_some hp
  try dsimp only at hp
  refine e_callS (st := []) (as := [.int (a0), .int (a1)]) f58_2 (by decide) rfl rfl (Nat.le_of_ble_eq_true rfl) (Nat.le_of_ble_eq_true rfl) (p43_ok (d + 1) (h) w (a0) (a1) r1 hr2) ?_
  show ex _ 58 (5, [some (.ref (39)), some (.int (a0)), some (.int (a1)), some (.long (a2)), none, none, none], [.int (r1)], h) = _
  by_cases hc3 : (r1) = (0 : Int32)
  · rw [if_pos hc3] at hp
    refine e_if_eq_t f58_5 hc3 ?_
    refine e_iconst (v := -1) f58_19 (by decide) ?_
    have hp := Option.some.inj hp
    subst hp
    exact e_ireturn f58_20 (Or.inl rfl)
  · rw [if_neg hc3] at hp
    refine e_if_eq_f f58_5 hc3 ?_
    refine e_aload_n f58_8 rfl ?_
    refine e_iload_n f58_9 rfl ?_
    refine e_iload_n f58_10 rfl ?_
    refine e_imul f58_11 ?_
    refine e_lload_n f58_12 rfl ?_
    obtain ⟨r4, hr5, hp⟩ := bind_some hp
    try dsimp only at hp
    refine e_callV (st := []) (o := 39) (as := [.int ((a0) * (a1)), .long (a2)]) f58_13 (by decide) rfl rfl (Nat.le_of_ble_eq_true rfl) (WF.t w 39 (by decide)) (Nat.le_of_ble_eq_true rfl) (p59_ok d F (h) w ((a0) * (a1)) (a2) r4 hr5) ?_
    show ex _ 58 (16, [some (.ref (39)), some (.int (a0)), some (.int (a1)), some (.long (a2)), none, none, none], [.int (r4.1)], r4.2) = _
    by_cases hc6 : (r4.1) = (0 : Int32)
    · rw [if_pos hc6] at hp
      refine e_if_ne_f f58_16 hc6 ?_
      refine e_iconst (v := -1) f58_19 (by decide) ?_
      have hp := Option.some.inj hp
      subst hp
      exact e_ireturn f58_20 (Or.inl rfl)
    · rw [if_neg hc6] at hp
      refine e_if_ne_t f58_16 hc6 ?_
      refine e_iconst (v := 0) f58_21 (by decide) ?_
      refine e_istore (ls2 := [some (.ref (39)), some (.int (a0)), some (.int (a1)), some (.long (a2)), none, some (.int (0)), none]) f58_22 (Nat.le_of_ble_eq_true rfl) rfl ?_
      refine e_iconst (v := 0) f58_24 (by decide) ?_
      refine e_istore (ls2 := [some (.ref (39)), some (.int (a0)), some (.int (a1)), some (.long (a2)), none, some (.int (0)), some (.int (0))]) f58_25 (Nat.le_of_ble_eq_true rfl) rfl ?_
      refine ex_weak (ls := [some (.ref (39)), some (.int (a0)), some (.int (a1)), none, none, some (.int (0)), some (.int (0))]) (le2_ok ⟨Or.inr rfl, Or.inr rfl, Or.inr rfl, Or.inl rfl, Or.inl rfl, Or.inr rfl, Or.inr rfl, trivial⟩) ?_
      exact p58_L27_ok d F a0 a1 a2 F (r4.2) ((p59_w F (h) w ((a0) * (a1)) (a2)  r4 hr5)) (0) (0) _ hp
set_option maxRecDepth 100000 in
set_option maxHeartbeats 4000000 in
theorem p58_w (F : Nat) (h : HS) (w : WF h) (a0 : Int32) (a1 : Int32) (a2 : Int64) (r : Int32 × HS) (hp : p58 F h a0 a1 a2 = some r) : WF r.2 := by
  unfold p58 at hp
  obtain ⟨r1, hr2, hp⟩ := bind_some hp
  try dsimp only at hp
  by_cases hc3 : (r1) = (0 : Int32)
  · rw [if_pos hc3] at hp
    have hp := Option.some.inj hp
    subst hp
    exact (w)
  · rw [if_neg hc3] at hp
    obtain ⟨r4, hr5, hp⟩ := bind_some hp
    try dsimp only at hp
    by_cases hc6 : (r4.1) = (0 : Int32)
    · rw [if_pos hc6] at hp
      have hp := Option.some.inj hp
      subst hp
      exact ((p59_w F (h) w ((a0) * (a1)) (a2)  r4 hr5))
    · rw [if_neg hc6] at hp
      exact p58_L27_w F a0 a1 a2 F (r4.2) ((p59_w F (h) w ((a0) * (a1)) (a2)  r4 hr5)) (0) (0) _ hp
