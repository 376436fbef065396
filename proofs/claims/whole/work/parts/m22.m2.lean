theorem f259_0 : fetch 259 0 = some (.aload_n 0, 0, 0, 0) := rfl
theorem f259_1 : fetch 259 1 = some (.invokevirtual 445, 245, 0, 0) := rfl
theorem f259_4 : fetch 259 4 = some (.aload_n 0, 0, 0, 0) := rfl
theorem f259_5 : fetch 259 5 = some (.getfield 384, 12, 53, 0) := rfl
theorem f259_8 : fetch 259 8 = some (.istore_n 1, 0, 0, 0) := rfl
theorem f259_9 : fetch 259 9 = some (.aload_n 0, 0, 0, 0) := rfl
theorem f259_10 : fetch 259 10 = some (.invokevirtual 448, 246, 0, 0) := rfl
theorem f259_13 : fetch 259 13 = some (.istore_n 2, 0, 0, 0) := rfl
theorem f259_14 : fetch 259 14 = some (.iload_n 2, 0, 0, 0) := rfl
theorem f259_15 : fetch 259 15 = some (.bipush 40, 0, 0, 0) := rfl
theorem f259_17 : fetch 259 17 = some (.if_icmp .ne 31, 48, 0, 0) := rfl
theorem f259_20 : fetch 259 20 = some (.aload_n 0, 0, 0, 0) := rfl
theorem f259_21 : fetch 259 21 = some (.iload_n 1, 0, 0, 0) := rfl
theorem f259_22 : fetch 259 22 = some (.invokevirtual 451, 256, 1, 0) := rfl
theorem f259_25 : fetch 259 25 = some (.aload_n 0, 0, 0, 0) := rfl
theorem f259_26 : fetch 259 26 = some (.iload_n 1, 0, 0, 0) := rfl
theorem f259_27 : fetch 259 27 = some (.invokevirtual 454, 258, 1, 0) := rfl
theorem f259_30 : fetch 259 30 = some (.aload_n 0, 0, 0, 0) := rfl
theorem f259_31 : fetch 259 31 = some (.bipush 15, 0, 0, 0) := rfl
theorem f259_33 : fetch 259 33 = some (.invokevirtual 457, 253, 1, 0) := rfl
theorem f259_36 : fetch 259 36 = some (.aload_n 0, 0, 0, 0) := rfl
theorem f259_37 : fetch 259 37 = some (.dup, 0, 0, 0) := rfl
theorem f259_38 : fetch 259 38 = some (.getfield 384, 12, 53, 0) := rfl
theorem f259_41 : fetch 259 41 = some (.iconst 1, 0, 0, 0) := rfl
theorem f259_42 : fetch 259 42 = some (.iadd, 0, 0, 0) := rfl
theorem f259_43 : fetch 259 43 = some (.putfield 384, 12, 53, 0) := rfl
theorem f259_46 : fetch 259 46 = some (.iconst 0, 0, 0, 0) := rfl
theorem f259_47 : fetch 259 47 = some (.ireturn, 0, 0, 1) := rfl
theorem f259_48 : fetch 259 48 = some (.iload_n 2, 0, 0, 0) := rfl
theorem f259_49 : fetch 259 49 = some (.invokestatic 418, 247, 1, 1) := rfl
theorem f259_52 : fetch 259 52 = some (.ifCond .eq 24, 76, 0, 0) := rfl
theorem f259_55 : fetch 259 55 = some (.aload_n 0, 0, 0, 0) := rfl
theorem f259_56 : fetch 259 56 = some (.sipush 9999, 0, 0, 0) := rfl
theorem f259_59 : fetch 259 59 = some (.invokevirtual 460, 251, 1, 0) := rfl
theorem f259_62 : fetch 259 62 = some (.istore_n 3, 0, 0, 0) := rfl
theorem f259_63 : fetch 259 63 = some (.aload_n 0, 0, 0, 0) := rfl
theorem f259_64 : fetch 259 64 = some (.iload_n 1, 0, 0, 0) := rfl
theorem f259_65 : fetch 259 65 = some (.invokevirtual 454, 258, 1, 0) := rfl
theorem f259_68 : fetch 259 68 = some (.aload_n 0, 0, 0, 0) := rfl
theorem f259_69 : fetch 259 69 = some (.iconst 0, 0, 0, 0) := rfl
theorem f259_70 : fetch 259 70 = some (.iload_n 3, 0, 0, 0) := rfl
theorem f259_71 : fetch 259 71 = some (.invokevirtual 439, 252, 2, 0) := rfl
theorem f259_74 : fetch 259 74 = some (.iconst 1, 0, 0, 0) := rfl
theorem f259_75 : fetch 259 75 = some (.ireturn, 0, 0, 1) := rfl
theorem f259_76 : fetch 259 76 = some (.aload_n 0, 0, 0, 0) := rfl
theorem f259_77 : fetch 259 77 = some (.invokevirtual 463, 248, 0, 0) := rfl
theorem f259_80 : fetch 259 80 = some (.istore_n 3, 0, 0, 0) := rfl
theorem f259_81 : fetch 259 81 = some (.iconst 0, 0, 0, 0) := rfl
theorem f259_82 : fetch 259 82 = some (.istore 4, 0, 0, 0) := rfl
theorem f259_84 : fetch 259 84 = some (.iload 4, 0, 0, 0) := rfl
theorem f259_86 : fetch 259 86 = some (.bipush 11, 0, 0, 0) := rfl
theorem f259_88 : fetch 259 88 = some (.if_icmp .ge 22, 110, 0, 0) := rfl
theorem f259_91 : fetch 259 91 = some (.aload_n 0, 0, 0, 0) := rfl
theorem f259_92 : fetch 259 92 = some (.iload 4, 0, 0, 0) := rfl
theorem f259_94 : fetch 259 94 = some (.invokestatic 466, 250, 1, 1) := rfl
theorem f259_97 : fetch 259 97 = some (.iload_n 3, 0, 0, 0) := rfl
theorem f259_98 : fetch 259 98 = some (.invokevirtual 470, 249, 2, 0) := rfl
theorem f259_101 : fetch 259 101 = some (.ifCond .ne 9, 110, 0, 0) := rfl
theorem f259_104 : fetch 259 104 = some (.iinc 4 1, 0, 0, 0) := rfl
theorem f259_107 : fetch 259 107 = some (.goto (-23), 84, 0, 0) := rfl
theorem f259_110 : fetch 259 110 = some (.iload 4, 0, 0, 0) := rfl
theorem f259_112 : fetch 259 112 = some (.bipush 11, 0, 0, 0) := rfl
theorem f259_114 : fetch 259 114 = some (.if_icmp .ne 11, 125, 0, 0) := rfl
theorem f259_117 : fetch 259 117 = some (.aload_n 0, 0, 0, 0) := rfl
theorem f259_118 : fetch 259 118 = some (.iconst 0, 0, 0, 0) := rfl
theorem f259_119 : fetch 259 119 = some (.iload_n 1, 0, 0, 0) := rfl
theorem f259_120 : fetch 259 120 = some (.invokevirtual 421, 244, 2, 0) := rfl
theorem f259_123 : fetch 259 123 = some (.iconst 1, 0, 0, 0) := rfl
theorem f259_124 : fetch 259 124 = some (.ireturn, 0, 0, 1) := rfl
theorem f259_125 : fetch 259 125 = some (.aload_n 0, 0, 0, 0) := rfl
theorem f259_126 : fetch 259 126 = some (.iload_n 1, 0, 0, 0) := rfl
theorem f259_127 : fetch 259 127 = some (.invokevirtual 454, 258, 1, 0) := rfl
theorem f259_130 : fetch 259 130 = some (.aload_n 0, 0, 0, 0) := rfl
theorem f259_131 : fetch 259 131 = some (.iload_n 3, 0, 0, 0) := rfl
theorem f259_132 : fetch 259 132 = some (.putfield 384, 12, 53, 0) := rfl
theorem f259_135 : fetch 259 135 = some (.aload_n 0, 0, 0, 0) := rfl
theorem f259_136 : fetch 259 136 = some (.iconst 1, 0, 0, 0) := rfl
theorem f259_137 : fetch 259 137 = some (.iload 4, 0, 0, 0) := rfl
theorem f259_139 : fetch 259 139 = some (.invokevirtual 439, 252, 2, 0) := rfl
theorem f259_142 : fetch 259 142 = some (.iconst 1, 0, 0, 0) := rfl
theorem f259_143 : fetch 259 143 = some (.ireturn, 0, 0, 1) := rfl
set_option maxRecDepth 100000 in
set_option maxHeartbeats 4000000 in
theorem p259_j110_ok (d : Nat) (F : Nat) (h : HS) (w : WF h) (v1 : Int32) (v3 : Int32) (v4 : Int32) (r : Int32 × HS) (hp : p259_j110 F h v1 v3 v4 = some r) : ex (d + 2) 259 (110, [some (.ref (86)), some (.int (v1)), none, some (.int (v3)), some (.int (v4))], [], h) = some (some (.int (r.1)), r.2) := by
  unfold p259_j110 at hp
  refine e_iload f259_110 rfl ?_
  refine e_bipush (v := 11) f259_112 (by decide) ?_
  by_cases hc29 : (v4) = ((11) : Int32)
  · rw [if_pos hc29] at hp
    refine e_icmp_ne_f f259_114 hc29 ?_
    refine e_aload_n f259_117 rfl ?_
    refine e_iconst (v := 0) f259_118 (by decide) ?_
    refine e_iload_n f259_119 rfl ?_
    obtain ⟨r30, hr31, hp⟩ := bind_some hp
    try dsimp only at hp
    refine e_callV (st := []) (o := 86) (as := [.int (0), .int (v1)]) f259_120 (by decide) rfl rfl (Nat.le_of_ble_eq_true rfl) (WF.t w 86 (by decide)) (Nat.le_of_ble_eq_true rfl) (p244_ok (d + 1) (h) w (0) (v1) r30 hr31) ?_
    show ex _ 259 (123, [some (.ref (86)), some (.int (v1)), none, some (.int (v3)), some (.int (v4))], [], r30) = _
    refine e_iconst (v := 1) f259_123 (by decide) ?_
    have hp := Option.some.inj hp
    subst hp
    exact e_ireturn f259_124 (by decide)
  · rw [if_neg hc29] at hp
    refine e_icmp_ne_t f259_114 hc29 ?_
    refine e_aload_n f259_125 rfl ?_
    refine e_iload_n f259_126 rfl ?_
    obtain ⟨r32, hr33, hp⟩ := bind_some hp
    try dsimp only at hp
    refine e_callV (st := []) (o := 86) (as := [.int (v1)]) f259_127 (by decide) rfl rfl (Nat.le_of_ble_eq_true rfl) (WF.t w 86 (by decide)) (Nat.le_of_ble_eq_true rfl) (p258_ok d (h) w (v1) r32 hr33) ?_
    show ex _ 259 (130, [some (.ref (86)), some (.int (v1)), none, some (.int (v3)), some (.int (v4))], [], r32) = _
    refine e_aload_n f259_130 rfl ?_
    refine e_iload_n f259_131 rfl ?_
    refine e_putI f259_132 (WF.t (p258_w (h) w (v1)  r32 hr33) 86 (by decide)) rfl ?_
    refine e_aload_n f259_135 rfl ?_
    refine e_iconst (v := 1) f259_136 (by decide) ?_
    refine e_iload f259_137 rfl ?_
    obtain ⟨r34, hr35, hp⟩ := bind_some hp
    try dsimp only at hp
    refine e_callV (st := []) (o := 86) (as := [.int (1), .int (v4)]) f259_139 (by decide) rfl rfl (Nat.le_of_ble_eq_true rfl) (WF.t (p258_w (h) w (v1)  r32 hr33) 86 (by decide)) (Nat.le_of_ble_eq_true rfl) (p252_ok (d + 1) (hsI (r32) (86) 53 (v3)) (p258_w (h) w (v1)  r32 hr33) (1) (v4) r34 hr35) ?_
    show ex _ 259 (142, [some (.ref (86)), some (.int (v1)), none, some (.int (v3)), some (.int (v4))], [], r34) = _
    refine e_iconst (v := 1) f259_142 (by decide) ?_
    have hp := Option.some.inj hp
    subst hp
    exact e_ireturn f259_143 (by decide)
set_option maxRecDepth 100000 in
set_option maxHeartbeats 4000000 in
theorem p259_j110_w (F : Nat) (h : HS) (w : WF h) (v1 : Int32) (v3 : Int32) (v4 : Int32) (r : Int32 × HS) (hp : p259_j110 F h v1 v3 v4 = some r) : WF r.2 := by
  unfold p259_j110 at hp
  by_cases hc29 : (v4) = ((11) : Int32)
  · rw [if_pos hc29] at hp
    obtain ⟨r30, hr31, hp⟩ := bind_some hp
    try dsimp only at hp
    have hp := Option.some.inj hp
    subst hp
    exact ((p244_w (h) w (0) (v1)  r30 hr31))
  · rw [if_neg hc29] at hp
    obtain ⟨r32, hr33, hp⟩ := bind_some hp
    try dsimp only at hp
    obtain ⟨r34, hr35, hp⟩ := bind_some hp
    try dsimp only at hp
    have hp := Option.some.inj hp
    subst hp
    exact ((p252_w (hsI (r32) (86) 53 (v3)) (p258_w (h) w (v1)  r32 hr33) (1) (v4)  r34 hr35))
set_option maxRecDepth 100000 in
set_option maxHeartbeats 4000000 in
theorem p259_L84_ok (d : Nat) (F : Nat) : ∀ (n : Nat) (h : HS) (w : WF h) (v1 : Int32) (v3 : Int32) (v4 : Int32) (r : Int32 × HS), p259_L84 F n h v1 v3 v4 = some r → ex (d + 2) 259 (84, [some (.ref (86)), some (.int (v1)), none, some (.int (v3)), some (.int (v4))], [], h) = some (some (.int (r.1)), r.2) := by
  intro n
  induction n with
  | zero => intro h w v1 v3 v4 r hp; cases hp
  | succ n ih =>
    intro h w v1 v3 v4 r hp
    unfold p259_L84 at hp
    refine e_iload f259_84 rfl ?_
    refine e_bipush (v := 11) f259_86 (by decide) ?_
    by_cases hc23 : (v4) < ((11) : Int32)
    · rw [if_pos hc23] at hp
      refine e_icmp_ge_f f259_88 hc23 ?_
      refine e_aload_n f259_91 rfl ?_
      refine e_iload f259_92 rfl ?_
      obtain ⟨r24, hr25, hp⟩ := bind_some hp
      try dsimp only at hp
      refine e_callS (st := [.ref (86)]) (as := [.int (v4)]) f259_94 (by decide) rfl rfl (Nat.le_of_ble_eq_true rfl) (Nat.le_of_ble_eq_true rfl) (p250_ok (d + 1) (h) w (v4) r24 hr25) ?_
      show ex _ 259 (97, [some (.ref (86)), some (.int (v1)), none, some (.int (v3)), some (.int (v4))], [va_rf (r24), .ref (86)], h) = _
      refine e_iload_n f259_97 rfl ?_
      obtain ⟨r26, hr27, hp⟩ := bind_some hp
      try dsimp only at hp
      refine e_callV (st := []) (o := 86) (as := [va_rf (r24), .int (v3)]) f259_98 (by decide) rfl rfl (Nat.le_of_ble_eq_true rfl) (WF.t w 86 (by decide)) (by cases (r24) <;> exact Nat.le_of_ble_eq_true rfl) (p249_ok (d + 1) F (h) w (r24) (v3) r26 hr27) ?_
      show ex _ 259 (101, [some (.ref (86)), some (.int (v1)), none, some (.int (v3)), some (.int (v4))], [.int (r26)], h) = _
      by_cases hc28 : (r26) = (0 : Int32)
      · rw [if_pos hc28] at hp
        refine e_if_ne_f f259_101 hc28 ?_
        refine e_iinc (ls2 := [some (.ref (86)), some (.int (v1)), none, some (.int (v3)), some (.int ((v4) + 1))]) f259_104 (by decide) rfl rfl ?_
        refine e_goto f259_107 ?_
        refine ex_weak (ls := [some (.ref (86)), some (.int (v1)), none, some (.int (v3)), some (.int ((v4) + 1))]) (le2_ok ⟨Or.inr rfl, Or.inr rfl, Or.inl rfl, Or.inr rfl, Or.inr rfl, trivial⟩) ?_
        exact ih (h) (w) (v1) (v3) ((v4) + 1) _ hp
      · rw [if_neg hc28] at hp
        refine e_if_ne_t f259_101 hc28 ?_
        refine ex_weak (ls := [some (.ref (86)), some (.int (v1)), none, some (.int (v3)), some (.int (v4))]) (le2_ok ⟨Or.inr rfl, Or.inr rfl, Or.inl rfl, Or.inr rfl, Or.inr rfl, trivial⟩) ?_
        exact p259_j110_ok d F (h) (w) (v1) (v3) (v4) _ hp
    · rw [if_neg hc23] at hp
      refine e_icmp_ge_t f259_88 hc23 ?_
      refine ex_weak (ls := [some (.ref (86)), some (.int (v1)), none, some (.int (v3)), some (.int (v4))]) (le2_ok ⟨Or.inr rfl, Or.inr rfl, Or.inl rfl, Or.inr rfl, Or.inr rfl, trivial⟩) ?_
      exact p259_j110_ok d F (h) (w) (v1) (v3) (v4) _ hp
set_option maxRecDepth 100000 in
set_option maxHeartbeats 4000000 in
theorem p259_L84_w (F : Nat) : ∀ (n : Nat) (h : HS) (w : WF h) (v1 : Int32) (v3 : Int32) (v4 : Int32) (r : Int32 × HS), p259_L84 F n h v1 v3 v4 = some r → WF r.2 := by
  intro n
  induction n with
  | zero => intro h w v1 v3 v4 r hp; cases hp
  | succ n ih =>
    intro h w v1 v3 v4 r hp
    unfold p259_L84 at hp
    by_cases hc23 : (v4) < ((11) : Int32)
    · rw [if_pos hc23] at hp
      obtain ⟨r24, hr25, hp⟩ := bind_some hp
      try dsimp only at hp
      obtain ⟨r26, hr27, hp⟩ := bind_some hp
      try dsimp only at hp
      by_cases hc28 : (r26) = (0 : Int32)
      · rw [if_pos hc28] at hp
        exact ih (h) (w) (v1) (v3) ((v4) + 1) _ hp
      · rw [if_neg hc28] at hp
        exact p259_j110_w F (h) (w) (v1) (v3) (v4) _ hp
    · rw [if_neg hc23] at hp
      exact p259_j110_w F (h) (w) (v1) (v3) (v4) _ hp
set_option maxRecDepth 100000 in
set_option maxHeartbeats 4000000 in
theorem p259_ok (d : Nat) (F : Nat) (h : HS) (w : WF h) (r : Int32 × HS) (hp : p259 F h = some r) : ex (d + 2) 259 (ent 259 [.ref (86)] h) = some (some (.int (r.1)), r.2) := by
  rw [show ent 259 [.ref (86)] h = (0, [some (.ref (86)), none, none, none, none], [], h) from by  rfl]
  refine ex_weak (ls := [some (.ref (86)), none, none, none, none]) (le2_ok ⟨Or.inr rfl, Or.inr rfl, Or.inr rfl, Or.inr rfl, Or.inr rfl, trivial⟩) ?_
  unfold p259 at hp
  refine e_aload_n f259_0 rfl ?_
  obtain ⟨r1, hr2, hp⟩ := bind_some hp
  try dsimp only at hp
  refine e_callV (st := []) (o := 86) (as := []) f259_1 (by decide) rfl rfl (Nat.le_of_ble_eq_true rfl) (WF.t w 86 (by decide)) (Nat.le_of_ble_eq_true rfl) (p245_ok (d + 1) F (h) w r1 hr2) ?_
  show ex _ 259 (4, [some (.ref (86)), none, none, none, none], [], r1) = _
  refine e_aload_n f259_4 rfl ?_
  refine e_getI f259_5 (WF.t (p245_w F (h) w  r1 hr2) 86 (by decide)) (by decide) ?_
  refine e_istore_n (ls2 := [some (.ref (86)), some (.int (hI (r1) (86) 53)), none, none, none]) f259_8 (Nat.le_of_ble_eq_true rfl) rfl ?_
  refine e_aload_n f259_9 rfl ?_
  obtain ⟨r3, hr4, hp⟩ := bind_some hp
  try dsimp only at hp
  refine e_callV (st := []) (o := 86) (as := []) f259_10 (by decide) rfl rfl (Nat.le_of_ble_eq_true rfl) (WF.t (p245_w F (h) w  r1 hr2) 86 (by decide)) (Nat.le_of_ble_eq_true rfl) (p246_ok (d + 1) (r1) (p245_w F (h) w  r1 hr2) r3 hr4) ?_
  show ex _ 259 (13, [some (.ref (86)), some (.int (hI (r1) (86) 53)), none, none, none], [.int (r3)], r1) = _
  refine e_istore_n (ls2 := [some (.ref (86)), some (.int (hI (r1) (86) 53)), some (.int (r3)), none, none]) f259_13 (Nat.le_of_ble_eq_true rfl) rfl ?_
  refine e_iload_n f259_14 rfl ?_
  refine e_bipush (v := 40) f259_15 (by decide) ?_
  by_cases hc5 : (r3) = ((40) : Int32)
  · rw [if_pos hc5] at hp
    refine e_icmp_ne_f f259_17 hc5 ?_
    refine e_aload_n f259_20 rfl ?_
    refine e_iload_n f259_21 rfl ?_
    obtain ⟨r6, hr7, hp⟩ := bind_some hp
    try dsimp only at hp
    refine e_callV (st := []) (o := 86) (as := [.int (hI (r1) (86) 53)]) f259_22 (by decide) rfl rfl (Nat.le_of_ble_eq_true rfl) (WF.t (p245_w F (h) w  r1 hr2) 86 (by decide)) (Nat.le_of_ble_eq_true rfl) (p256_ok d (r1) (p245_w F (h) w  r1 hr2) (hI (r1) (86) 53) r6 hr7) ?_
    show ex _ 259 (25, [some (.ref (86)), some (.int (hI (r1) (86) 53)), some (.int (r3)), none, none], [], r6) = _
    refine e_aload_n f259_25 rfl ?_
    refine e_iload_n f259_26 rfl ?_
    obtain ⟨r8, hr9, hp⟩ := bind_some hp
    try dsimp only at hp
    refine e_callV (st := []) (o := 86) (as := [.int (hI (r1) (86) 53)]) f259_27 (by decide) rfl rfl (Nat.le_of_ble_eq_true rfl) (WF.t (p256_w (r1) (p245_w F (h) w  r1 hr2) (hI (r1) (86) 53)  r6 hr7) 86 (by decide)) (Nat.le_of_ble_eq_true rfl) (p258_ok d (r6) (p256_w (r1) (p245_w F (h) w  r1 hr2) (hI (r1) (86) 53)  r6 hr7) (hI (r1) (86) 53) r8 hr9) ?_
    show ex _ 259 (30, [some (.ref (86)), some (.int (hI (r1) (86) 53)), some (.int (r3)), none, none], [], r8) = _
    refine e_aload_n f259_30 rfl ?_
    refine e_bipush (v := 15) f259_31 (by decide) ?_
    obtain ⟨r10, hr11, hp⟩ := bind_some hp
    try dsimp only at hp
    refine e_callV (st := []) (o := 86) (as := [.int (15)]) f259_33 (by decide) rfl rfl (Nat.le_of_ble_eq_true rfl) (WF.t (p258_w (r6) (p256_w (r1) (p245_w F (h) w  r1 hr2) (hI (r1) (86) 53)  r6 hr7) (hI (r1) (86) 53)  r8 hr9) 86 (by decide)) (Nat.le_of_ble_eq_true rfl) (p253_ok (d + 1) (r8) (p258_w (r6) (p256_w (r1) (p245_w F (h) w  r1 hr2) (hI (r1) (86) 53)  r6 hr7) (hI (r1) (86) 53)  r8 hr9) (15) r10 hr11) ?_
    show ex _ 259 (36, [some (.ref (86)), some (.int (hI (r1) (86) 53)), some (.int (r3)), none, none], [], r10) = _
    refine e_aload_n f259_36 rfl ?_
    refine e_dup f259_37 rfl ?_
    refine e_getI f259_38 (WF.t (p253_w (r8) (p258_w (r6) (p256_w (r1) (p245_w F (h) w  r1 hr2) (hI (r1) (86) 53)  r6 hr7) (hI (r1) (86) 53)  r8 hr9) (15)  r10 hr11) 86 (by decide)) (by decide) ?_
    refine e_iconst (v := 1) f259_41 (by decide) ?_
    refine e_iadd f259_42 ?_
    refine e_putI f259_43 (WF.t (p253_w (r8) (p258_w (r6) (p256_w (r1) (p245_w F (h) w  r1 hr2) (hI (r1) (86) 53)  r6 hr7) (hI (r1) (86) 53)  r8 hr9) (15)  r10 hr11) 86 (by decide)) rfl ?_
    refine e_iconst (v := 0) f259_46 (by decide) ?_
    have hp := Option.some.inj hp
    subst hp
    exact e_ireturn f259_47 (by decide)
  · rw [if_neg hc5] at hp
    refine e_icmp_ne_t f259_17 hc5 ?_
    refine e_iload_n f259_48 rfl ?_
    obtain ⟨r12, hr13, hp⟩ := bind_some hp
    try dsimp only at hp
    refine e_callS (st := []) (as := [.int (r3)]) f259_49 (by decide) rfl rfl (Nat.le_of_ble_eq_true rfl) (Nat.le_of_ble_eq_true rfl) (p247_ok (d + 1) (r1) (p245_w F (h) w  r1 hr2) (r3) r12 hr13) ?_
    show ex _ 259 (52, [some (.ref (86)), some (.int (hI (r1) (86) 53)), some (.int (r3)), none, none], [.int (r12)], r1) = _
    by_cases hc14 : (r12) = (0 : Int32)
    · rw [if_pos hc14] at hp
      refine e_if_eq_t f259_52 hc14 ?_
      refine e_aload_n f259_76 rfl ?_
      obtain ⟨r15, hr16, hp⟩ := bind_some hp
      try dsimp only at hp
      refine e_callV (st := []) (o := 86) (as := []) f259_77 (by decide) rfl rfl (Nat.le_of_ble_eq_true rfl) (WF.t (p245_w F (h) w  r1 hr2) 86 (by decide)) (Nat.le_of_ble_eq_true rfl) (p248_ok (d + 1) F (r1) (p245_w F (h) w  r1 hr2) r15 hr16) ?_
      show ex _ 259 (80, [some (.ref (86)), some (.int (hI (r1) (86) 53)), some (.int (r3)), none, none], [.int (r15)], r1) = _
      refine e_istore_n (ls2 := [some (.ref (86)), some (.int (hI (r1) (86) 53)), some (.int (r3)), some (.int (r15)), none]) f259_80 (Nat.le_of_ble_eq_true rfl) rfl ?_
      refine e_iconst (v := 0) f259_81 (by decide) ?_
      refine e_istore (ls2 := [some (.ref (86)), some (.int (hI (r1) (86) 53)), some (.int (r3)), some (.int (r15)), some (.int (0))]) f259_82 (Nat.le_of_ble_eq_true rfl) rfl ?_
      refine ex_weak (ls := [some (.ref (86)), some (.int (hI (r1) (86) 53)), none, some (.int (r15)), some (.int (0))]) (le2_ok ⟨Or.inr rfl, Or.inr rfl, Or.inl rfl, Or.inr rfl, Or.inr rfl, trivial⟩) ?_
      exact p259_L84_ok d F F (r1) ((p245_w F (h) w  r1 hr2)) (hI (r1) (86) 53) (r15) (0) _ hp
    · rw [if_neg hc14] at hp
      refine e_if_eq_f f259_52 hc14 ?_
      refine e_aload_n f259_55 rfl ?_
      refine e_sipush (v := 9999) f259_56 (by decide) ?_
      obtain ⟨r17, hr18, hp⟩ := bind_some hp
      try dsimp only at hp
      refine e_callV (st := []) (o := 86) (as := [.int (9999)]) f259_59 (by decide) rfl rfl (Nat.le_of_ble_eq_true rfl) (WF.t (p245_w F (h) w  r1 hr2) 86 (by decide)) (Nat.le_of_ble_eq_true rfl) (p251_ok d F (r1) (p245_w F (h) w  r1 hr2) (9999) r17 hr18) ?_
      show ex _ 259 (62, [some (.ref (86)), some (.int (hI (r1) (86) 53)), some (.int (r3)), none, none], [.int (r17.1)], r17.2) = _
      refine e_istore_n (ls2 := [some (.ref (86)), some (.int (hI (r1) (86) 53)), some (.int (r3)), some (.int (r17.1)), none]) f259_62 (Nat.le_of_ble_eq_true rfl) rfl ?_
      refine e_aload_n f259_63 rfl ?_
      refine e_iload_n f259_64 rfl ?_
      obtain ⟨r19, hr20, hp⟩ := bind_some hp
      try dsimp only at hp
      refine e_callV (st := []) (o := 86) (as := [.int (hI (r1) (86) 53)]) f259_65 (by decide) rfl rfl (Nat.le_of_ble_eq_true rfl) (WF.t (p251_w F (r1) (p245_w F (h) w  r1 hr2) (9999)  r17 hr18) 86 (by decide)) (Nat.le_of_ble_eq_true rfl) (p258_ok d (r17.2) (p251_w F (r1) (p245_w F (h) w  r1 hr2) (9999)  r17 hr18) (hI (r1) (86) 53) r19 hr20) ?_
      show ex _ 259 (68, [some (.ref (86)), some (.int (hI (r1) (86) 53)), some (.int (r3)), some (.int (r17.1)), none], [], r19) = _
      refine e_aload_n f259_68 rfl ?_
      refine e_iconst (v := 0) f259_69 (by decide) ?_
      refine e_iload_n f259_70 rfl ?_
      obtain ⟨r21, hr22, hp⟩ := bind_some hp
      try dsimp only at hp
      refine e_callV (st := []) (o := 86) (as := [.int (0), .int (r17.1)]) f259_71 (by decide) rfl rfl (Nat.le_of_ble_eq_true rfl) (WF.t (p258_w (r17.2) (p251_w F (r1) (p245_w F (h) w  r1 hr2) (9999)  r17 hr18) (hI (r1) (86) 53)  r19 hr20) 86 (by decide)) (Nat.le_of_ble_eq_true rfl) (p252_ok (d + 1) (r19) (p258_w (r17.2) (p251_w F (r1) (p245_w F (h) w  r1 hr2) (9999)  r17 hr18) (hI (r1) (86) 53)  r19 hr20) (0) (r17.1) r21 hr22) ?_
      show ex _ 259 (74, [some (.ref (86)), some (.int (hI (r1) (86) 53)), some (.int (r3)), some (.int (r17.1)), none], [], r21) = _
      refine e_iconst (v := 1) f259_74 (by decide) ?_
      have hp := Option.some.inj hp
      subst hp
      exact e_ireturn f259_75 (by decide)
set_option maxRecDepth 100000 in
set_option maxHeartbeats 4000000 in
theorem p259_w (F : Nat) (h : HS) (w : WF h) (r : Int32 × HS) (hp : p259 F h = some r) : WF r.2 := by
  unfold p259 at hp
  obtain ⟨r1, hr2, hp⟩ := bind_some hp
  try dsimp only at hp
  obtain ⟨r3, hr4, hp⟩ := bind_some hp
  try dsimp only at hp
  by_cases hc5 : (r3) = ((40) : Int32)
  · rw [if_pos hc5] at hp
    obtain ⟨r6, hr7, hp⟩ := bind_some hp
    try dsimp only at hp
    obtain ⟨r8, hr9, hp⟩ := bind_some hp
    try dsimp only at hp
    obtain ⟨r10, hr11, hp⟩ := bind_some hp
    try dsimp only at hp
    have hp := Option.some.inj hp
    subst hp
    exact ((p253_w (r8) (p258_w (r6) (p256_w (r1) (p245_w F (h) w  r1 hr2) (hI (r1) (86) 53)  r6 hr7) (hI (r1) (86) 53)  r8 hr9) (15)  r10 hr11))
  · rw [if_neg hc5] at hp
    obtain ⟨r12, hr13, hp⟩ := bind_some hp
    try dsimp only at hp
    by_cases hc14 : (r12) = (0 : Int32)
    · rw [if_pos hc14] at hp
      obtain ⟨r15, hr16, hp⟩ := bind_some hp
      try dsimp only at hp
      exact p259_L84_w F F (r1) ((p245_w F (h) w  r1 hr2)) (hI (r1) (86) 53) (r15) (0) _ hp
    · rw [if_neg hc14] at hp
      obtain ⟨r17, hr18, hp⟩ := bind_some hp
      try dsimp only at hp
      obtain ⟨r19, hr20, hp⟩ := bind_some hp
      try dsimp only at hp
      obtain ⟨r21, hr22, hp⟩ := bind_some hp
      try dsimp only at hp
      have hp := Option.some.inj hp
      subst hp
      exact ((p252_w (r19) (p258_w (r17.2) (p251_w F (r1) (p245_w F (h) w  r1 hr2) (9999)  r17 hr18) (hI (r1) (86) 53)  r19 hr20) (0) (r17.1)  r21 hr22))
theorem f260_0 : fetch 260 0 = some (.aload_n 0, 0, 0, 0) := rfl
theorem f260_1 : fetch 260 1 = some (.invokevirtual 448, 246, 0, 0) := rfl
theorem f260_4 : fetch 260 4 = some (.istore_n 1, 0, 0, 0) := rfl
theorem f260_5 : fetch 260 5 = some (.aload_n 0, 0, 0, 0) := rfl
theorem f260_6 : fetch 260 6 = some (.getfield 384, 12, 53, 0) := rfl
theorem f260_9 : fetch 260 9 = some (.iconst 1, 0, 0, 0) := rfl
theorem f260_10 : fetch 260 10 = some (.iadd, 0, 0, 0) := rfl
theorem f260_11 : fetch 260 11 = some (.aload_n 0, 0, 0, 0) := rfl
theorem f260_12 : fetch 260 12 = some (.getfield 374, 12, 52, 0) := rfl
theorem f260_15 : fetch 260 15 = some (.if_icmp .ge 23, 38, 0, 0) := rfl
theorem f260_18 : fetch 260 18 = some (.aload_n 0, 0, 0, 0) := rfl
theorem f260_19 : fetch 260 19 = some (.getfield 128, 12, 51, 2) := rfl
theorem f260_22 : fetch 260 22 = some (.aload_n 0, 0, 0, 0) := rfl
theorem f260_23 : fetch 260 23 = some (.getfield 384, 12, 53, 0) := rfl
theorem f260_26 : fetch 260 26 = some (.iconst 1, 0, 0, 0) := rfl
theorem f260_27 : fetch 260 27 = some (.iadd, 0, 0, 0) := rfl
theorem f260_28 : fetch 260 28 = some (.baload, 0, 0, 0) := rfl
theorem f260_29 : fetch 260 29 = some (.bipush 61, 0, 0, 0) := rfl
theorem f260_31 : fetch 260 31 = some (.if_icmp .ne 7, 38, 0, 0) := rfl
theorem f260_34 : fetch 260 34 = some (.iconst 1, 0, 0, 0) := rfl
theorem f260_35 : fetch 260 35 = some (.goto 4, 39, 0, 0) := rfl
theorem f260_38 : fetch 260 38 = some (.iconst 0, 0, 0, 0) := rfl
theorem f260_39 : fetch 260 39 = some (.istore_n 2, 0, 0, 0) := rfl
theorem f260_40 : fetch 260 40 = some (.iload_n 1, 0, 0, 0) := rfl
theorem f260_41 : fetch 260 41 = some (.bipush 61, 0, 0, 0) := rfl
theorem f260_43 : fetch 260 43 = some (.if_icmp .ne 16, 59, 0, 0) := rfl
theorem f260_46 : fetch 260 46 = some (.aload_n 0, 0, 0, 0) := rfl
theorem f260_47 : fetch 260 47 = some (.dup, 0, 0, 0) := rfl
theorem f260_48 : fetch 260 48 = some (.getfield 384, 12, 53, 0) := rfl
theorem f260_51 : fetch 260 51 = some (.iconst 1, 0, 0, 0) := rfl
theorem f260_52 : fetch 260 52 = some (.iadd, 0, 0, 0) := rfl
theorem f260_53 : fetch 260 53 = some (.putfield 384, 12, 53, 0) := rfl
theorem f260_56 : fetch 260 56 = some (.bipush 9, 0, 0, 0) := rfl
theorem f260_58 : fetch 260 58 = some (.ireturn, 0, 0, 0) := rfl
theorem f260_59 : fetch 260 59 = some (.iload_n 1, 0, 0, 0) := rfl
theorem f260_60 : fetch 260 60 = some (.bipush 60, 0, 0, 0) := rfl
theorem f260_62 : fetch 260 62 = some (.if_icmp .eq 9, 71, 0, 0) := rfl
theorem f260_65 : fetch 260 65 = some (.iload_n 1, 0, 0, 0) := rfl
theorem f260_66 : fetch 260 66 = some (.bipush 62, 0, 0, 0) := rfl
theorem f260_68 : fetch 260 68 = some (.if_icmp .ne 53, 121, 0, 0) := rfl
theorem f260_71 : fetch 260 71 = some (.aload_n 0, 0, 0, 0) := rfl
theorem f260_72 : fetch 260 72 = some (.dup, 0, 0, 0) := rfl
theorem f260_73 : fetch 260 73 = some (.getfield 384, 12, 53, 0) := rfl
theorem f260_76 : fetch 260 76 = some (.iload_n 2, 0, 0, 0) := rfl
theorem f260_77 : fetch 260 77 = some (.ifCond .eq 7, 84, 0, 0) := rfl
theorem f260_80 : fetch 260 80 = some (.iconst 2, 0, 0, 0) := rfl
theorem f260_81 : fetch 260 81 = some (.goto 4, 85, 0, 0) := rfl
theorem f260_84 : fetch 260 84 = some (.iconst 1, 0, 0, 0) := rfl
theorem f260_85 : fetch 260 85 = some (.iadd, 0, 0, 0) := rfl
theorem f260_86 : fetch 260 86 = some (.putfield 384, 12, 53, 0) := rfl
theorem f260_89 : fetch 260 89 = some (.iload_n 1, 0, 0, 0) := rfl
theorem f260_90 : fetch 260 90 = some (.bipush 60, 0, 0, 0) := rfl
theorem f260_92 : fetch 260 92 = some (.if_icmp .ne 17, 109, 0, 0) := rfl
theorem f260_95 : fetch 260 95 = some (.iload_n 2, 0, 0, 0) := rfl
theorem f260_96 : fetch 260 96 = some (.ifCond .eq 8, 104, 0, 0) := rfl
theorem f260_99 : fetch 260 99 = some (.bipush 8, 0, 0, 0) := rfl
theorem f260_101 : fetch 260 101 = some (.goto 19, 120, 0, 0) := rfl
theorem f260_104 : fetch 260 104 = some (.bipush 7, 0, 0, 0) := rfl
theorem f260_106 : fetch 260 106 = some (.goto 14, 120, 0, 0) := rfl
theorem f260_109 : fetch 260 109 = some (.iload_n 2, 0, 0, 0) := rfl
theorem f260_110 : fetch 260 110 = some (.ifCond .eq 8, 118, 0, 0) := rfl
theorem f260_113 : fetch 260 113 = some (.bipush 10, 0, 0, 0) := rfl
theorem f260_115 : fetch 260 115 = some (.goto 5, 120, 0, 0) := rfl
theorem f260_118 : fetch 260 118 = some (.bipush 11, 0, 0, 0) := rfl
theorem f260_120 : fetch 260 120 = some (.ireturn, 0, 0, 0) := rfl
theorem f260_121 : fetch 260 121 = some (.iconst (-1), 0, 0, 0) := rfl
theorem f260_122 : fetch 260 122 = some (.ireturn, 0, 0, 0) := rfl
set_option maxRecDepth 100000 in
set_option maxHeartbeats 4000000 in
theorem p260_j85_ok (d : Nat)  (h : HS) (w : WF h) (v1 : Int32) (v2 : Int32) (s0 : Int32) (s1 : Int32) (r : Int32 × HS) (hp : p260_j85 h v1 v2 s0 s1 = some r) : ex (d + 1) 260 (85, [none, some (.int (v1)), some (.int (v2))], [.int (s0), .int (s1), .ref (86)], h) = some (some (.int (r.1)), r.2) := by
  unfold p260_j85 at hp
  refine e_iadd f260_85 ?_
  refine e_putI f260_86 (WF.t w 86 (by decide)) rfl ?_
  refine e_iload_n f260_89 rfl ?_
  refine e_bipush (v := 60) f260_90 (by decide) ?_
  by_cases hc10 : (v1) = ((60) : Int32)
  · rw [if_pos hc10] at hp
    refine e_icmp_ne_f f260_92 hc10 ?_
    refine e_iload_n f260_95 rfl ?_
    by_cases hc11 : (v2) = (0 : Int32)
    · rw [if_pos hc11] at hp
      refine e_if_eq_t f260_96 hc11 ?_
      refine e_bipush (v := 7) f260_104 (by decide) ?_
      refine e_goto f260_106 ?_
      have hp := Option.some.inj hp
      subst hp
      exact e_ireturn f260_120 (Or.inl rfl)
    · rw [if_neg hc11] at hp
      refine e_if_eq_f f260_96 hc11 ?_
      refine e_bipush (v := 8) f260_99 (by decide) ?_
      refine e_goto f260_101 ?_
      have hp := Option.some.inj hp
      subst hp
      exact e_ireturn f260_120 (Or.inl rfl)
  · rw [if_neg hc10] at hp
    refine e_icmp_ne_t f260_92 hc10 ?_
    refine e_iload_n f260_109 rfl ?_
    by_cases hc12 : (v2) = (0 : Int32)
    · rw [if_pos hc12] at hp
      refine e_if_eq_t f260_110 hc12 ?_
      refine e_bipush (v := 11) f260_118 (by decide) ?_
      have hp := Option.some.inj hp
      subst hp
      exact e_ireturn f260_120 (Or.inl rfl)
    · rw [if_neg hc12] at hp
      refine e_if_eq_f f260_110 hc12 ?_
      refine e_bipush (v := 10) f260_113 (by decide) ?_
      refine e_goto f260_115 ?_
      have hp := Option.some.inj hp
      subst hp
      exact e_ireturn f260_120 (Or.inl rfl)
set_option maxRecDepth 100000 in
set_option maxHeartbeats 4000000 in
theorem p260_j85_w  (h : HS) (w : WF h) (v1 : Int32) (v2 : Int32) (s0 : Int32) (s1 : Int32) (r : Int32 × HS) (hp : p260_j85 h v1 v2 s0 s1 = some r) : WF r.2 := by
  unfold p260_j85 at hp
  by_cases hc10 : (v1) = ((60) : Int32)
  · rw [if_pos hc10] at hp
    by_cases hc11 : (v2) = (0 : Int32)
    · rw [if_pos hc11] at hp
      have hp := Option.some.inj hp
      subst hp
      exact (w)
    · rw [if_neg hc11] at hp
      have hp := Option.some.inj hp
      subst hp
      exact (w)
  · rw [if_neg hc10] at hp
    by_cases hc12 : (v2) = (0 : Int32)
    · rw [if_pos hc12] at hp
      have hp := Option.some.inj hp
      subst hp
      exact (w)
    · rw [if_neg hc12] at hp
      have hp := Option.some.inj hp
      subst hp
      exact (w)
set_option maxRecDepth 100000 in
set_option maxHeartbeats 4000000 in
theorem p260_j71_ok (d : Nat)  (h : HS) (w : WF h) (v1 : Int32) (v2 : Int32) (r : Int32 × HS) (hp : p260_j71 h v1 v2 = some r) : ex (d + 1) 260 (71, [some (.ref (86)), some (.int (v1)), some (.int (v2))], [], h) = some (some (.int (r.1)), r.2) := by
  unfold p260_j71 at hp
  refine e_aload_n f260_71 rfl ?_
  refine e_dup f260_72 rfl ?_
  refine e_getI f260_73 (WF.t w 86 (by decide)) (by decide) ?_
  refine e_iload_n f260_76 rfl ?_
  by_cases hc9 : (v2) = (0 : Int32)
  · rw [if_pos hc9] at hp
    refine e_if_eq_t f260_77 hc9 ?_
    refine e_iconst (v := 1) f260_84 (by decide) ?_
    refine ex_weak (ls := [none, some (.int (v1)), some (.int (v2))]) (le2_ok ⟨Or.inl rfl, Or.inr rfl, Or.inr rfl, trivial⟩) ?_
    exact p260_j85_ok d (h) (w) (v1) (v2) (1) (hI (h) (86) 53) _ hp
  · rw [if_neg hc9] at hp
    refine e_if_eq_f f260_77 hc9 ?_
    refine e_iconst (v := 2) f260_80 (by decide) ?_
    refine e_goto f260_81 ?_
    refine ex_weak (ls := [none, some (.int (v1)), some (.int (v2))]) (le2_ok ⟨Or.inl rfl, Or.inr rfl, Or.inr rfl, trivial⟩) ?_
    exact p260_j85_ok d (h) (w) (v1) (v2) (2) (hI (h) (86) 53) _ hp
set_option maxRecDepth 100000 in
set_option maxHeartbeats 4000000 in
theorem p260_j71_w  (h : HS) (w : WF h) (v1 : Int32) (v2 : Int32) (r : Int32 × HS) (hp : p260_j71 h v1 v2 = some r) : WF r.2 := by
  unfold p260_j71 at hp
  by_cases hc9 : (v2) = (0 : Int32)
  · rw [if_pos hc9] at hp
    exact p260_j85_w (h) (w) (v1) (v2) (1) (hI (h) (86) 53) _ hp
  · rw [if_neg hc9] at hp
    exact p260_j85_w (h) (w) (v1) (v2) (2) (hI (h) (86) 53) _ hp
set_option maxRecDepth 100000 in
set_option maxHeartbeats 4000000 in
theorem p260_j39_ok (d : Nat)  (h : HS) (w : WF h) (v1 : Int32) (s0 : Int32) (r : Int32 × HS) (hp : p260_j39 h v1 s0 = some r) : ex (d + 1) 260 (39, [some (.ref (86)), some (.int (v1)), none], [.int (s0)], h) = some (some (.int (r.1)), r.2) := by
  unfold p260_j39 at hp
  refine e_istore_n (ls2 := [some (.ref (86)), some (.int (v1)), some (.int (s0))]) f260_39 (Nat.le_of_ble_eq_true rfl) rfl ?_
  refine e_iload_n f260_40 rfl ?_
  refine e_bipush (v := 61) f260_41 (by decide) ?_
  by_cases hc6 : (v1) = ((61) : Int32)
  · rw [if_pos hc6] at hp
    refine e_icmp_ne_f f260_43 hc6 ?_
    refine e_aload_n f260_46 rfl ?_
    refine e_dup f260_47 rfl ?_
    refine e_getI f260_48 (WF.t w 86 (by decide)) (by decide) ?_
    refine e_iconst (v := 1) f260_51 (by decide) ?_
    refine e_iadd f260_52 ?_
    refine e_putI f260_53 (WF.t w 86 (by decide)) rfl ?_
    refine e_bipush (v := 9) f260_56 (by decide) ?_
    have hp := Option.some.inj hp
    subst hp
    exact e_ireturn f260_58 (Or.inl rfl)
  · rw [if_neg hc6] at hp
    refine e_icmp_ne_t f260_43 hc6 ?_
    refine e_iload_n f260_59 rfl ?_
    refine e_bipush (v := 60) f260_60 (by decide) ?_
    by_cases hc7 : (v1) = ((60) : Int32)
    · rw [if_pos hc7] at hp
      refine e_icmp_eq_t f260_62 hc7 ?_
      refine ex_weak (ls := [some (.ref (86)), some (.int (v1)), some (.int (s0))]) (le2_ok ⟨Or.inr rfl, Or.inr rfl, Or.inr rfl, trivial⟩) ?_
      exact p260_j71_ok d (h) (w) (v1) (s0) _ hp
    · rw [if_neg hc7] at hp
      refine e_icmp_eq_f f260_62 hc7 ?_
      refine e_iload_n f260_65 rfl ?_
      refine e_bipush (v := 62) f260_66 (by decide) ?_
      by_cases hc8 : (v1) = ((62) : Int32)
      · rw [if_pos hc8] at hp
        refine e_icmp_ne_f f260_68 hc8 ?_
        refine ex_weak (ls := [some (.ref (86)), some (.int (v1)), some (.int (s0))]) (le2_ok ⟨Or.inr rfl, Or.inr rfl, Or.inr rfl, trivial⟩) ?_
        exact p260_j71_ok d (h) (w) (v1) (s0) _ hp
      · rw [if_neg hc8] at hp
        refine e_icmp_ne_t f260_68 hc8 ?_
        refine e_iconst (v := -1) f260_121 (by decide) ?_
        have hp := Option.some.inj hp
        subst hp
        exact e_ireturn f260_122 (Or.inl rfl)
set_option maxRecDepth 100000 in
set_option maxHeartbeats 4000000 in
theorem p260_j39_w  (h : HS) (w : WF h) (v1 : Int32) (s0 : Int32) (r : Int32 × HS) (hp : p260_j39 h v1 s0 = some r) : WF r.2 := by
  unfold p260_j39 at hp
  by_cases hc6 : (v1) = ((61) : Int32)
  · rw [if_pos hc6] at hp
    have hp := Option.some.inj hp
    subst hp
    exact (w)
  · rw [if_neg hc6] at hp
    by_cases hc7 : (v1) = ((60) : Int32)
    · rw [if_pos hc7] at hp
      exact p260_j71_w (h) (w) (v1) (s0) _ hp
    · rw [if_neg hc7] at hp
      by_cases hc8 : (v1) = ((62) : Int32)
      · rw [if_pos hc8] at hp
        exact p260_j71_w (h) (w) (v1) (s0) _ hp
      · rw [if_neg hc8] at hp
        have hp := Option.some.inj hp
        subst hp
        exact (w)
set_option maxRecDepth 100000 in
set_option maxHeartbeats 4000000 in
theorem p260_j38_ok (d : Nat)  (h : HS) (w : WF h) (v1 : Int32) (r : Int32 × HS) (hp : p260_j38 h v1 = some r) : ex (d + 1) 260 (38, [some (.ref (86)), some (.int (v1)), none], [], h) = some (some (.int (r.1)), r.2) := by
  unfold p260_j38 at hp
  refine e_iconst (v := 0) f260_38 (by decide) ?_
  refine ex_weak (ls := [some (.ref (86)), some (.int (v1)), none]) (le2_ok ⟨Or.inr rfl, Or.inr rfl, Or.inl rfl, trivial⟩) ?_
  exact p260_j39_ok d (h) (w) (v1) (0) _ hp
set_option maxRecDepth 100000 in
set_option maxHeartbeats 4000000 in
theorem p260_j38_w  (h : HS) (w : WF h) (v1 : Int32) (r : Int32 × HS) (hp : p260_j38 h v1 = some r) : WF r.2 := by
  unfold p260_j38 at hp
  exact p260_j39_w (h) (w) (v1) (0) _ hp
set_option maxRecDepth 100000 in
set_option maxHeartbeats 4000000 in
theorem p260_ok (d : Nat) (h : HS) (w : WF h) (r : Int32 × HS) (hp : p260 h = some r) : ex (d + 1) 260 (ent 260 [.ref (86)] h) = some (some (.int (r.1)), r.2) := by
  rw [show ent 260 [.ref (86)] h = (0, [some (.ref (86)), none, none], [], h) from by  rfl]
  refine ex_weak (ls := [some (.ref (86)), none, none]) (le2_ok ⟨Or.inr rfl, Or.inr rfl, Or.inr rfl, trivial⟩) ?_
  unfold p260 at hp
  refine e_aload_n f260_0 rfl ?_
  obtain ⟨r1, hr2, hp⟩ := bind_some hp
  try dsimp only at hp
  refine e_callV (st := []) (o := 86) (as := []) f260_1 (by decide) rfl rfl (Nat.le_of_ble_eq_true rfl) (WF.t w 86 (by decide)) (Nat.le_of_ble_eq_true rfl) (p246_ok d (h) w r1 hr2) ?_
  show ex _ 260 (4, [some (.ref (86)), none, none], [.int (r1)], h) = _
  refine e_istore_n (ls2 := [some (.ref (86)), some (.int (r1)), none]) f260_4 (Nat.le_of_ble_eq_true rfl) rfl ?_
  refine e_aload_n f260_5 rfl ?_
  refine e_getI f260_6 (WF.t w 86 (by decide)) (by decide) ?_
  refine e_iconst (v := 1) f260_9 (by decide) ?_
  refine e_iadd f260_10 ?_
  refine e_aload_n f260_11 rfl ?_
  refine e_getI f260_12 (WF.t w 86 (by decide)) (by decide) ?_
  by_cases hc3 : ((hI (h) (86) 53) + (1)) < ((hI (h) (86) 52) : Int32)
  · rw [if_pos hc3] at hp
    refine e_icmp_ge_f f260_15 hc3 ?_
    refine e_aload_n f260_18 rfl ?_
    refine e_getR f260_19 (WF.t w 86 (by decide)) rfl (WF.r (q := 126) w 86 51 (by decide)) ?_
    refine e_aload_n f260_22 rfl ?_
    refine e_getI f260_23 (WF.t w 86 (by decide)) (by decide) ?_
    refine e_iconst (v := 1) f260_26 (by decide) ?_
    refine e_iadd f260_27 ?_
    by_cases hg4 : ((hI (h) (86) 53) + (1)) < (0 : Int32) ∨ 400 ≤ ((hI (h) (86) 53) + (1)).toNatClampNeg
    · rw [if_pos hg4] at hp; cases hp
    rw [if_neg hg4] at hp
    refine e_baload f260_28 (Or.inl (WF.t w 126 (by decide))) (WF.n w 126 (by decide)) hg4 ?_
    refine e_bipush (v := 61) f260_29 (by decide) ?_
    by_cases hc5 : (hI (h) (126) ((hI (h) (86) 53) + (1)).toNatClampNeg) = ((61) : Int32)
    · rw [if_pos hc5] at hp
      refine e_icmp_ne_f f260_31 hc5 ?_
      refine e_iconst (v := 1) f260_34 (by decide) ?_
      refine e_goto f260_35 ?_
      refine ex_weak (ls := [some (.ref (86)), some (.int (r1)), none]) (le2_ok ⟨Or.inr rfl, Or.inr rfl, Or.inl rfl, trivial⟩) ?_
      exact p260_j39_ok d (h) (w) (r1) (1) _ hp
    · rw [if_neg hc5] at hp
      refine e_icmp_ne_t f260_31 hc5 ?_
      refine ex_weak (ls := [some (.ref (86)), some (.int (r1)), none]) (le2_ok ⟨Or.inr rfl, Or.inr rfl, Or.inl rfl, trivial⟩) ?_
      exact p260_j38_ok d (h) (w) (r1) _ hp
  · rw [if_neg hc3] at hp
    refine e_icmp_ge_t f260_15 hc3 ?_
    refine ex_weak (ls := [some (.ref (86)), some (.int (r1)), none]) (le2_ok ⟨Or.inr rfl, Or.inr rfl, Or.inl rfl, trivial⟩) ?_
    exact p260_j38_ok d (h) (w) (r1) _ hp
set_option maxRecDepth 100000 in
set_option maxHeartbeats 4000000 in
theorem p260_w (h : HS) (w : WF h) (r : Int32 × HS) (hp : p260 h = some r) : WF r.2 := by
  unfold p260 at hp
  obtain ⟨r1, hr2, hp⟩ := bind_some hp
  try dsimp only at hp
  by_cases hc3 : ((hI (h) (86) 53) + (1)) < ((hI (h) (86) 52) : Int32)
  · rw [if_pos hc3] at hp
    by_cases hg4 : ((hI (h) (86) 53) + (1)) < (0 : Int32) ∨ 400 ≤ ((hI (h) (86) 53) + (1)).toNatClampNeg
    · rw [if_pos hg4] at hp; cases hp
    rw [if_neg hg4] at hp
    by_cases hc5 : (hI (h) (126) ((hI (h) (86) 53) + (1)).toNatClampNeg) = ((61) : Int32)
    · rw [if_pos hc5] at hp
      exact p260_j39_w (h) (w) (r1) (1) _ hp
    · rw [if_neg hc5] at hp
      exact p260_j38_w (h) (w) (r1) _ hp
  · rw [if_neg hc3] at hp
    exact p260_j38_w (h) (w) (r1) _ hp
theorem f261_0 : fetch 261 0 = some (.aload_n 0, 0, 0, 0) := rfl
theorem f261_1 : fetch 261 1 = some (.invokevirtual 445, 245, 0, 0) := rfl
theorem f261_4 : fetch 261 4 = some (.aload_n 0, 0, 0, 0) := rfl
theorem f261_5 : fetch 261 5 = some (.invokevirtual 463, 248, 0, 0) := rfl
theorem f261_8 : fetch 261 8 = some (.istore_n 1, 0, 0, 0) := rfl
theorem f261_9 : fetch 261 9 = some (.aload_n 0, 0, 0, 0) := rfl
theorem f261_10 : fetch 261 10 = some (.ldc_w 474, 10, 1, 0) := rfl
theorem f261_13 : fetch 261 13 = some (.iload_n 1, 0, 0, 0) := rfl
theorem f261_14 : fetch 261 14 = some (.invokevirtual 470, 249, 2, 0) := rfl
theorem f261_17 : fetch 261 17 = some (.istore_n 2, 0, 0, 0) := rfl
theorem f261_18 : fetch 261 18 = some (.iload_n 2, 0, 0, 0) := rfl
theorem f261_19 : fetch 261 19 = some (.ifCond .ne 12, 31, 0, 0) := rfl
theorem f261_22 : fetch 261 22 = some (.aload_n 0, 0, 0, 0) := rfl
theorem f261_23 : fetch 261 23 = some (.invokevirtual 448, 246, 0, 0) := rfl
theorem f261_26 : fetch 261 26 = some (.bipush 91, 0, 0, 0) := rfl
theorem f261_28 : fetch 261 28 = some (.if_icmp .ne 46, 74, 0, 0) := rfl
theorem f261_31 : fetch 261 31 = some (.aload_n 0, 0, 0, 0) := rfl
theorem f261_32 : fetch 261 32 = some (.aload_n 0, 0, 0, 0) := rfl
theorem f261_33 : fetch 261 33 = some (.getfield 384, 12, 53, 0) := rfl
theorem f261_36 : fetch 261 36 = some (.invokevirtual 451, 256, 1, 0) := rfl
theorem f261_39 : fetch 261 39 = some (.aload_n 0, 0, 0, 0) := rfl
theorem f261_40 : fetch 261 40 = some (.iload_n 2, 0, 0, 0) := rfl
theorem f261_41 : fetch 261 41 = some (.ifCond .eq 8, 49, 0, 0) := rfl
theorem f261_44 : fetch 261 44 = some (.bipush 14, 0, 0, 0) := rfl
theorem f261_46 : fetch 261 46 = some (.goto 5, 51, 0, 0) := rfl
theorem f261_49 : fetch 261 49 = some (.bipush 16, 0, 0, 0) := rfl
theorem f261_51 : fetch 261 51 = some (.invokevirtual 457, 253, 1, 0) := rfl
theorem f261_54 : fetch 261 54 = some (.aload_n 0, 0, 0, 0) := rfl
theorem f261_55 : fetch 261 55 = some (.iload_n 2, 0, 0, 0) := rfl
theorem f261_56 : fetch 261 56 = some (.ifCond .eq 7, 63, 0, 0) := rfl
theorem f261_59 : fetch 261 59 = some (.iload_n 1, 0, 0, 0) := rfl
theorem f261_60 : fetch 261 60 = some (.goto 9, 69, 0, 0) := rfl
theorem f261_63 : fetch 261 63 = some (.aload_n 0, 0, 0, 0) := rfl
theorem f261_64 : fetch 261 64 = some (.getfield 384, 12, 53, 0) := rfl
theorem f261_67 : fetch 261 67 = some (.iconst 1, 0, 0, 0) := rfl
theorem f261_68 : fetch 261 68 = some (.iadd, 0, 0, 0) := rfl
theorem f261_69 : fetch 261 69 = some (.putfield 384, 12, 53, 0) := rfl
theorem f261_72 : fetch 261 72 = some (.iconst 0, 0, 0, 0) := rfl
theorem f261_73 : fetch 261 73 = some (.ireturn, 0, 0, 0) := rfl
theorem f261_74 : fetch 261 74 = some (.iconst 1, 0, 0, 0) := rfl
theorem f261_75 : fetch 261 75 = some (.ireturn, 0, 0, 0) := rfl
set_option maxRecDepth 100000 in
set_option maxHeartbeats 4000000 in
theorem p261_j69_ok (d : Nat) (F : Nat) (h : HS) (w : WF h) (s0 : Int32) (r : Int32 × HS) (hp : p261_j69 F h s0 = some r) : ex (d + 2) 261 (69, [none, none, none], [.int (s0), .ref (86)], h) = some (some (.int (r.1)), r.2) := by
  unfold p261_j69 at hp
  refine e_putI f261_69 (WF.t w 86 (by decide)) rfl ?_
  refine e_iconst (v := 0) f261_72 (by decide) ?_
  have hp := Option.some.inj hp
  subst hp
  exact e_ireturn f261_73 (Or.inl rfl)
set_option maxRecDepth 100000 in
set_option maxHeartbeats 4000000 in
theorem p261_j69_w (F : Nat) (h : HS) (w : WF h) (s0 : Int32) (r : Int32 × HS) (hp : p261_j69 F h s0 = some r) : WF r.2 := by
  unfold p261_j69 at hp
  have hp := Option.some.inj hp
  subst hp
  exact (w)
set_option maxRecDepth 100000 in
set_option maxHeartbeats 4000000 in
theorem p261_j51_ok (d : Nat) (F : Nat) (h : HS) (w : WF h) (v1 : Int32) (v2 : Int32) (s0 : Int32) (r : Int32 × HS) (hp : p261_j51 F h v1 v2 s0 = some r) : ex (d + 2) 261 (51, [some (.ref (86)), some (.int (v1)), some (.int (v2))], [.int (s0), .ref (86)], h) = some (some (.int (r.1)), r.2) := by
  unfold p261_j51 at hp
  obtain ⟨r14, hr15, hp⟩ := bind_some hp
  try dsimp only at hp
  refine e_callV (st := []) (o := 86) (as := [.int (s0)]) f261_51 (by decide) rfl rfl (Nat.le_of_ble_eq_true rfl) (WF.t w 86 (by decide)) (Nat.le_of_ble_eq_true rfl) (p253_ok (d + 1) (h) w (s0) r14 hr15) ?_
  show ex _ 261 (54, [some (.ref (86)), some (.int (v1)), some (.int (v2))], [], r14) = _
  refine e_aload_n f261_54 rfl ?_
  refine e_iload_n f261_55 rfl ?_
  by_cases hc16 : (v2) = (0 : Int32)
  · rw [if_pos hc16] at hp
    refine e_if_eq_t f261_56 hc16 ?_
    refine e_aload_n f261_63 rfl ?_
    refine e_getI f261_64 (WF.t (p253_w (h) w (s0)  r14 hr15) 86 (by decide)) (by decide) ?_
    refine e_iconst (v := 1) f261_67 (by decide) ?_
    refine e_iadd f261_68 ?_
    refine ex_weak (ls := [none, none, none]) (le2_ok ⟨Or.inl rfl, Or.inl rfl, Or.inl rfl, trivial⟩) ?_
    exact p261_j69_ok d F (r14) ((p253_w (h) w (s0)  r14 hr15)) ((hI (r14) (86) 53) + (1)) _ hp
  · rw [if_neg hc16] at hp
    refine e_if_eq_f f261_56 hc16 ?_
    refine e_iload_n f261_59 rfl ?_
    refine e_goto f261_60 ?_
    refine ex_weak (ls := [none, none, none]) (le2_ok ⟨Or.inl rfl, Or.inl rfl, Or.inl rfl, trivial⟩) ?_
    exact p261_j69_ok d F (r14) ((p253_w (h) w (s0)  r14 hr15)) (v1) _ hp
set_option maxRecDepth 100000 in
set_option maxHeartbeats 4000000 in
theorem p261_j51_w (F : Nat) (h : HS) (w : WF h) (v1 : Int32) (v2 : Int32) (s0 : Int32) (r : Int32 × HS) (hp : p261_j51 F h v1 v2 s0 = some r) : WF r.2 := by
  unfold p261_j51 at hp
  obtain ⟨r14, hr15, hp⟩ := bind_some hp
  try dsimp only at hp
  by_cases hc16 : (v2) = (0 : Int32)
  · rw [if_pos hc16] at hp
    exact p261_j69_w F (r14) ((p253_w (h) w (s0)  r14 hr15)) ((hI (r14) (86) 53) + (1)) _ hp
  · rw [if_neg hc16] at hp
    exact p261_j69_w F (r14) ((p253_w (h) w (s0)  r14 hr15)) (v1) _ hp
set_option maxRecDepth 100000 in
set_option maxHeartbeats 4000000 in
theorem p261_j31_ok (d : Nat) (F : Nat) (h : HS) (w : WF h) (v1 : Int32) (v2 : Int32) (r : Int32 × HS) (hp : p261_j31 F h v1 v2 = some r) : ex (d + 2) 261 (31, [some (.ref (86)), some (.int (v1)), some (.int (v2))], [], h) = some (some (.int (r.1)), r.2) := by
  unfold p261_j31 at hp
  refine e_aload_n f261_31 rfl ?_
  refine e_aload_n f261_32 rfl ?_
  refine e_getI f261_33 (WF.t w 86 (by decide)) (by decide) ?_
  obtain ⟨r11, hr12, hp⟩ := bind_some hp
  try dsimp only at hp
  refine e_callV (st := []) (o := 86) (as := [.int (hI (h) (86) 53)]) f261_36 (by decide) rfl rfl (Nat.le_of_ble_eq_true rfl) (WF.t w 86 (by decide)) (Nat.le_of_ble_eq_true rfl) (p256_ok d (h) w (hI (h) (86) 53) r11 hr12) ?_
  show ex _ 261 (39, [some (.ref (86)), some (.int (v1)), some (.int (v2))], [], r11) = _
  refine e_aload_n f261_39 rfl ?_
  refine e_iload_n f261_40 rfl ?_
  by_cases hc13 : (v2) = (0 : Int32)
  · rw [if_pos hc13] at hp
    refine e_if_eq_t f261_41 hc13 ?_
    refine e_bipush (v := 16) f261_49 (by decide) ?_
    refine ex_weak (ls := [some (.ref (86)), some (.int (v1)), some (.int (v2))]) (le2_ok ⟨Or.inr rfl, Or.inr rfl, Or.inr rfl, trivial⟩) ?_
    exact p261_j51_ok d F (r11) ((p256_w (h) w (hI (h) (86) 53)  r11 hr12)) (v1) (v2) (16) _ hp
  · rw [if_neg hc13] at hp
    refine e_if_eq_f f261_41 hc13 ?_
    refine e_bipush (v := 14) f261_44 (by decide) ?_
    refine e_goto f261_46 ?_
    refine ex_weak (ls := [some (.ref (86)), some (.int (v1)), some (.int (v2))]) (le2_ok ⟨Or.inr rfl, Or.inr rfl, Or.inr rfl, trivial⟩) ?_
    exact p261_j51_ok d F (r11) ((p256_w (h) w (hI (h) (86) 53)  r11 hr12)) (v1) (v2) (14) _ hp
set_option maxRecDepth 100000 in
set_option maxHeartbeats 4000000 in
theorem p261_j31_w (F : Nat) (h : HS) (w : WF h) (v1 : Int32) (v2 : Int32) (r : Int32 × HS) (hp : p261_j31 F h v1 v2 = some r) : WF r.2 := by
  unfold p261_j31 at hp
  obtain ⟨r11, hr12, hp⟩ := bind_some hp
  try dsimp only at hp
  by_cases hc13 : (v2) = (0 : Int32)
  · rw [if_pos hc13] at hp
    exact p261_j51_w F (r11) ((p256_w (h) w (hI (h) (86) 53)  r11 hr12)) (v1) (v2) (16) _ hp
  · rw [if_neg hc13] at hp
    exact p261_j51_w F (r11) ((p256_w (h) w (hI (h) (86) 53)  r11 hr12)) (v1) (v2) (14) _ hp
set_option maxRecDepth 100000 in
set_option maxHeartbeats 4000000 in
theorem p261_ok (d : Nat) (F : Nat) (h : HS) (w : WF h) (r : Int32 × HS) (hp : p261 F h = some r) : ex (d + 2) 261 (ent 261 [.ref (86)] h) = some (some (.int (r.1)), r.2) := by
  rw [show ent 261 [.ref (86)] h = (0, [some (.ref (86)), none, none], [], h) from by  rfl]
  refine ex_weak (ls := [some (.ref (86)), none, none]) (le2_ok ⟨Or.inr rfl, Or.inr rfl, Or.inr rfl, trivial⟩) ?_
  unfold p261 at hp
  refine e_aload_n f261_0 rfl ?_
  obtain ⟨r1, hr2, hp⟩ := bind_some hp
  try dsimp only at hp
  refine e_callV (st := []) (o := 86) (as := []) f261_1 (by decide) rfl rfl (Nat.le_of_ble_eq_true rfl) (WF.t w 86 (by decide)) (Nat.le_of_ble_eq_true rfl) (p245_ok (d + 1) F (h) w r1 hr2) ?_
  show ex _ 261 (4, [some (.ref (86)), none, none], [], r1) = _
  refine e_aload_n f261_4 rfl ?_
  obtain ⟨r3, hr4, hp⟩ := bind_some hp
  try dsimp only at hp
  refine e_callV (st := []) (o := 86) (as := []) f261_5 (by decide) rfl rfl (Nat.le_of_ble_eq_true rfl) (WF.t (p245_w F (h) w  r1 hr2) 86 (by decide)) (Nat.le_of_ble_eq_true rfl) (p248_ok (d + 1) F (r1) (p245_w F (h) w  r1 hr2) r3 hr4) ?_
  show ex _ 261 (8, [some (.ref (86)), none, none], [.int (r3)], r1) = _
  refine e_istore_n (ls2 := [some (.ref (86)), some (.int (r3)), none]) f261_8 (Nat.le_of_ble_eq_true rfl) rfl ?_
  refine e_aload_n f261_9 rfl ?_
  refine e_ldcwS f261_10 rfl ?_
  refine e_iload_n f261_13 rfl ?_
  obtain ⟨r5, hr6, hp⟩ := bind_some hp
  try dsimp only at hp
  refine e_callV (st := []) (o := 86) (as := [.ref (10), .int (r3)]) f261_14 (by decide) rfl rfl (Nat.le_of_ble_eq_true rfl) (WF.t (p245_w F (h) w  r1 hr2) 86 (by decide)) (Nat.le_of_ble_eq_true rfl) (p249_ok (d + 1) F (r1) (p245_w F (h) w  r1 hr2) (some (10)) (r3) r5 hr6) ?_
  show ex _ 261 (17, [some (.ref (86)), some (.int (r3)), none], [.int (r5)], r1) = _
  refine e_istore_n (ls2 := [some (.ref (86)), some (.int (r3)), some (.int (r5))]) f261_17 (Nat.le_of_ble_eq_true rfl) rfl ?_
  refine e_iload_n f261_18 rfl ?_
  by_cases hc7 : (r5) = (0 : Int32)
  · rw [if_pos hc7] at hp
    refine e_if_ne_f f261_19 hc7 ?_
    refine e_aload_n f261_22 rfl ?_
    obtain ⟨r8, hr9, hp⟩ := bind_some hp
    try dsimp only at hp
    refine e_callV (st := []) (o := 86) (as := []) f261_23 (by decide) rfl rfl (Nat.le_of_ble_eq_true rfl) (WF.t (p245_w F (h) w  r1 hr2) 86 (by decide)) (Nat.le_of_ble_eq_true rfl) (p246_ok (d + 1) (r1) (p245_w F (h) w  r1 hr2) r8 hr9) ?_
    show ex _ 261 (26, [some (.ref (86)), some (.int (r3)), some (.int (r5))], [.int (r8)], r1) = _
    refine e_bipush (v := 91) f261_26 (by decide) ?_
    by_cases hc10 : (r8) = ((91) : Int32)
    · rw [if_pos hc10] at hp
      refine e_icmp_ne_f f261_28 hc10 ?_
      refine ex_weak (ls := [some (.ref (86)), some (.int (r3)), some (.int (r5))]) (le2_ok ⟨Or.inr rfl, Or.inr rfl, Or.inr rfl, trivial⟩) ?_
      exact p261_j31_ok d F (r1) ((p245_w F (h) w  r1 hr2)) (r3) (r5) _ hp
    · rw [if_neg hc10] at hp
      refine e_icmp_ne_t f261_28 hc10 ?_
      refine e_iconst (v := 1) f261_74 (by decide) ?_
      have hp := Option.some.inj hp
      subst hp
      exact e_ireturn f261_75 (Or.inl rfl)
  · rw [if_neg hc7] at hp
    refine e_if_ne_t f261_19 hc7 ?_
    refine ex_weak (ls := [some (.ref (86)), some (.int (r3)), some (.int (r5))]) (le2_ok ⟨Or.inr rfl, Or.inr rfl, Or.inr rfl, trivial⟩) ?_
    exact p261_j31_ok d F (r1) ((p245_w F (h) w  r1 hr2)) (r3) (r5) _ hp
set_option maxRecDepth 100000 in
set_option maxHeartbeats 4000000 in
theorem p261_w (F : Nat) (h : HS) (w : WF h) (r : Int32 × HS) (hp : p261 F h = some r) : WF r.2 := by
  unfold p261 at hp
  obtain ⟨r1, hr2, hp⟩ := bind_some hp
  try dsimp only at hp
  obtain ⟨r3, hr4, hp⟩ := bind_some hp
  try dsimp only at hp
  obtain ⟨r5, hr6, hp⟩ := bind_some hp
  try dsimp only at hp
  by_cases hc7 : (r5) = (0 : Int32)
  · rw [if_pos hc7] at hp
    obtain ⟨r8, hr9, hp⟩ := bind_some hp
    try dsimp only at hp
    by_cases hc10 : (r8) = ((91) : Int32)
    · rw [if_pos hc10] at hp
      exact p261_j31_w F (r1) ((p245_w F (h) w  r1 hr2)) (r3) (r5) _ hp
    · rw [if_neg hc10] at hp
      have hp := Option.some.inj hp
      subst hp
      exact ((p245_w F (h) w  r1 hr2))
  · rw [if_neg hc7] at hp
    exact p261_j31_w F (r1) ((p245_w F (h) w  r1 hr2)) (r3) (r5) _ hp
theorem f262_0 : fetch 262 0 = some (.aload_n 0, 0, 0, 0) := rfl
theorem f262_1 : fetch 262 1 = some (.invokevirtual 445, 245, 0, 0) := rfl
theorem f262_4 : fetch 262 4 = some (.aload_n 0, 0, 0, 0) := rfl
theorem f262_5 : fetch 262 5 = some (.invokevirtual 448, 246, 0, 0) := rfl
theorem f262_8 : fetch 262 8 = some (.istore_n 2, 0, 0, 0) := rfl
theorem f262_9 : fetch 262 9 = some (.iload_n 2, 0, 0, 0) := rfl
theorem f262_10 : fetch 262 10 = some (.bipush 42, 0, 0, 0) := rfl
theorem f262_12 : fetch 262 12 = some (.if_icmp .eq 15, 27, 0, 0) := rfl
theorem f262_15 : fetch 262 15 = some (.iload_n 2, 0, 0, 0) := rfl
theorem f262_16 : fetch 262 16 = some (.bipush 43, 0, 0, 0) := rfl
theorem f262_18 : fetch 262 18 = some (.if_icmp .eq 9, 27, 0, 0) := rfl
theorem f262_21 : fetch 262 21 = some (.iload_n 2, 0, 0, 0) := rfl
theorem f262_22 : fetch 262 22 = some (.bipush 45, 0, 0, 0) := rfl
theorem f262_24 : fetch 262 24 = some (.if_icmp .ne 55, 79, 0, 0) := rfl
theorem f262_27 : fetch 262 27 = some (.aload_n 0, 0, 0, 0) := rfl
theorem f262_28 : fetch 262 28 = some (.iload_n 2, 0, 0, 0) := rfl
theorem f262_29 : fetch 262 29 = some (.bipush 42, 0, 0, 0) := rfl
theorem f262_31 : fetch 262 31 = some (.if_icmp .ne 7, 38, 0, 0) := rfl
theorem f262_34 : fetch 262 34 = some (.iconst 1, 0, 0, 0) := rfl
theorem f262_35 : fetch 262 35 = some (.goto 4, 39, 0, 0) := rfl
theorem f262_38 : fetch 262 38 = some (.iconst 0, 0, 0, 0) := rfl
theorem f262_39 : fetch 262 39 = some (.invokevirtual 476, 257, 1, 0) := rfl
theorem f262_42 : fetch 262 42 = some (.aload_n 0, 0, 0, 0) := rfl
theorem f262_43 : fetch 262 43 = some (.iload_n 2, 0, 0, 0) := rfl
theorem f262_44 : fetch 262 44 = some (.bipush 42, 0, 0, 0) := rfl
theorem f262_46 : fetch 262 46 = some (.if_icmp .ne 7, 53, 0, 0) := rfl
theorem f262_49 : fetch 262 49 = some (.iconst 5, 0, 0, 0) := rfl
theorem f262_50 : fetch 262 50 = some (.goto 14, 64, 0, 0) := rfl
theorem f262_53 : fetch 262 53 = some (.iload_n 2, 0, 0, 0) := rfl
theorem f262_54 : fetch 262 54 = some (.bipush 43, 0, 0, 0) := rfl
theorem f262_56 : fetch 262 56 = some (.if_icmp .ne 7, 63, 0, 0) := rfl
theorem f262_59 : fetch 262 59 = some (.iconst 3, 0, 0, 0) := rfl
theorem f262_60 : fetch 262 60 = some (.goto 4, 64, 0, 0) := rfl
theorem f262_63 : fetch 262 63 = some (.iconst 4, 0, 0, 0) := rfl
theorem f262_64 : fetch 262 64 = some (.invokevirtual 457, 253, 1, 0) := rfl
theorem f262_67 : fetch 262 67 = some (.aload_n 0, 0, 0, 0) := rfl
theorem f262_68 : fetch 262 68 = some (.dup, 0, 0, 0) := rfl
theorem f262_69 : fetch 262 69 = some (.getfield 384, 12, 53, 0) := rfl
theorem f262_72 : fetch 262 72 = some (.iconst 1, 0, 0, 0) := rfl
theorem f262_73 : fetch 262 73 = some (.iadd, 0, 0, 0) := rfl
theorem f262_74 : fetch 262 74 = some (.putfield 384, 12, 53, 0) := rfl
theorem f262_77 : fetch 262 77 = some (.iconst 1, 0, 0, 0) := rfl
theorem f262_78 : fetch 262 78 = some (.ireturn, 0, 0, 0) := rfl
theorem f262_79 : fetch 262 79 = some (.aload_n 0, 0, 0, 0) := rfl
theorem f262_80 : fetch 262 80 = some (.iconst 0, 0, 0, 0) := rfl
theorem f262_81 : fetch 262 81 = some (.invokevirtual 476, 257, 1, 0) := rfl
theorem f262_84 : fetch 262 84 = some (.iload_n 2, 0, 0, 0) := rfl
theorem f262_85 : fetch 262 85 = some (.bipush 41, 0, 0, 0) := rfl
theorem f262_87 : fetch 262 87 = some (.if_icmp .ne 44, 131, 0, 0) := rfl
theorem f262_90 : fetch 262 90 = some (.aload_n 0, 0, 0, 0) := rfl
theorem f262_91 : fetch 262 91 = some (.invokevirtual 436, 254, 0, 0) := rfl
theorem f262_94 : fetch 262 94 = some (.bipush 15, 0, 0, 0) := rfl
theorem f262_96 : fetch 262 96 = some (.if_icmp .ne 35, 131, 0, 0) := rfl
theorem f262_99 : fetch 262 99 = some (.aload_n 0, 0, 0, 0) := rfl
theorem f262_100 : fetch 262 100 = some (.dup, 0, 0, 0) := rfl
theorem f262_101 : fetch 262 101 = some (.getfield 430, 12, 68, 0) := rfl
theorem f262_104 : fetch 262 104 = some (.iconst 1, 0, 0, 0) := rfl
theorem f262_105 : fetch 262 105 = some (.isub, 0, 0, 0) := rfl
theorem f262_106 : fetch 262 106 = some (.putfield 430, 12, 68, 0) := rfl
theorem f262_109 : fetch 262 109 = some (.aload_n 0, 0, 0, 0) := rfl
theorem f262_110 : fetch 262 110 = some (.dup, 0, 0, 0) := rfl
theorem f262_111 : fetch 262 111 = some (.getfield 433, 12, 56, 0) := rfl
theorem f262_114 : fetch 262 114 = some (.iconst 1, 0, 0, 0) := rfl
theorem f262_115 : fetch 262 115 = some (.isub, 0, 0, 0) := rfl
theorem f262_116 : fetch 262 116 = some (.putfield 433, 12, 56, 0) := rfl
theorem f262_119 : fetch 262 119 = some (.aload_n 0, 0, 0, 0) := rfl
theorem f262_120 : fetch 262 120 = some (.dup, 0, 0, 0) := rfl
theorem f262_121 : fetch 262 121 = some (.getfield 384, 12, 53, 0) := rfl
theorem f262_124 : fetch 262 124 = some (.iconst 1, 0, 0, 0) := rfl
theorem f262_125 : fetch 262 125 = some (.iadd, 0, 0, 0) := rfl
theorem f262_126 : fetch 262 126 = some (.putfield 384, 12, 53, 0) := rfl
theorem f262_129 : fetch 262 129 = some (.iconst 2, 0, 0, 0) := rfl
theorem f262_130 : fetch 262 130 = some (.ireturn, 0, 0, 0) := rfl
theorem f262_131 : fetch 262 131 = some (.aload_n 0, 0, 0, 0) := rfl
theorem f262_132 : fetch 262 132 = some (.getfield 384, 12, 53, 0) := rfl
theorem f262_135 : fetch 262 135 = some (.istore_n 3, 0, 0, 0) := rfl
theorem f262_136 : fetch 262 136 = some (.aload_n 0, 0, 0, 0) := rfl
theorem f262_137 : fetch 262 137 = some (.invokevirtual 436, 254, 0, 0) := rfl
theorem f262_140 : fetch 262 140 = some (.bipush 15, 0, 0, 0) := rfl
theorem f262_142 : fetch 262 142 = some (.if_icmp .ne 11, 153, 0, 0) := rfl
theorem f262_145 : fetch 262 145 = some (.aload_n 0, 0, 0, 0) := rfl
theorem f262_146 : fetch 262 146 = some (.iconst 0, 0, 0, 0) := rfl
theorem f262_147 : fetch 262 147 = some (.iload_n 3, 0, 0, 0) := rfl
theorem f262_148 : fetch 262 148 = some (.invokevirtual 421, 244, 2, 0) := rfl
theorem f262_151 : fetch 262 151 = some (.iconst 4, 0, 0, 0) := rfl
theorem f262_152 : fetch 262 152 = some (.ireturn, 0, 0, 0) := rfl
theorem f262_153 : fetch 262 153 = some (.iload_n 1, 0, 0, 0) := rfl
theorem f262_154 : fetch 262 154 = some (.ifCond .eq 28, 182, 0, 0) := rfl
theorem f262_157 : fetch 262 157 = some (.aload_n 0, 0, 0, 0) := rfl
theorem f262_158 : fetch 262 158 = some (.getfield 384, 12, 53, 0) := rfl
theorem f262_161 : fetch 262 161 = some (.aload_n 0, 0, 0, 0) := rfl
theorem f262_162 : fetch 262 162 = some (.getfield 374, 12, 52, 0) := rfl
theorem f262_165 : fetch 262 165 = some (.if_icmp .ge 15, 180, 0, 0) := rfl
theorem f262_168 : fetch 262 168 = some (.iload_n 2, 0, 0, 0) := rfl
theorem f262_169 : fetch 262 169 = some (.bipush 59, 0, 0, 0) := rfl
theorem f262_171 : fetch 262 171 = some (.if_icmp .eq 9, 180, 0, 0) := rfl
theorem f262_174 : fetch 262 174 = some (.aload_n 0, 0, 0, 0) := rfl
theorem f262_175 : fetch 262 175 = some (.iconst 0, 0, 0, 0) := rfl
theorem f262_176 : fetch 262 176 = some (.iload_n 3, 0, 0, 0) := rfl
theorem f262_177 : fetch 262 177 = some (.invokevirtual 421, 244, 2, 0) := rfl
theorem f262_180 : fetch 262 180 = some (.iconst 4, 0, 0, 0) := rfl
theorem f262_181 : fetch 262 181 = some (.ireturn, 0, 0, 0) := rfl
theorem f262_182 : fetch 262 182 = some (.aload_n 0, 0, 0, 0) := rfl
theorem f262_183 : fetch 262 183 = some (.invokevirtual 436, 254, 0, 0) := rfl
theorem f262_186 : fetch 262 186 = some (.invokestatic 480, 255, 1, 1) := rfl
theorem f262_189 : fetch 262 189 = some (.ifCond .ne 37, 226, 0, 0) := rfl
theorem f262_192 : fetch 262 192 = some (.aload_n 0, 0, 0, 0) := rfl
theorem f262_193 : fetch 262 193 = some (.invokevirtual 483, 260, 0, 0) := rfl
theorem f262_196 : fetch 262 196 = some (.istore 4, 0, 0, 0) := rfl
theorem f262_198 : fetch 262 198 = some (.iload 4, 0, 0, 0) := rfl
theorem f262_200 : fetch 262 200 = some (.iconst (-1), 0, 0, 0) := rfl
theorem f262_201 : fetch 262 201 = some (.if_icmp .ne 12, 213, 0, 0) := rfl
theorem f262_204 : fetch 262 204 = some (.aload_n 0, 0, 0, 0) := rfl
theorem f262_205 : fetch 262 205 = some (.iconst 0, 0, 0, 0) := rfl
theorem f262_206 : fetch 262 206 = some (.iload_n 3, 0, 0, 0) := rfl
theorem f262_207 : fetch 262 207 = some (.invokevirtual 421, 244, 2, 0) := rfl
theorem f262_210 : fetch 262 210 = some (.goto 14, 224, 0, 0) := rfl
theorem f262_213 : fetch 262 213 = some (.aload_n 0, 0, 0, 0) := rfl
theorem f262_214 : fetch 262 214 = some (.iload_n 3, 0, 0, 0) := rfl
theorem f262_215 : fetch 262 215 = some (.invokevirtual 454, 258, 1, 0) := rfl
theorem f262_218 : fetch 262 218 = some (.aload_n 0, 0, 0, 0) := rfl
theorem f262_219 : fetch 262 219 = some (.iload 4, 0, 0, 0) := rfl
theorem f262_221 : fetch 262 221 = some (.invokevirtual 457, 253, 1, 0) := rfl
theorem f262_224 : fetch 262 224 = some (.iconst 1, 0, 0, 0) := rfl
theorem f262_225 : fetch 262 225 = some (.ireturn, 0, 0, 0) := rfl
theorem f262_226 : fetch 262 226 = some (.aload_n 0, 0, 0, 0) := rfl
theorem f262_227 : fetch 262 227 = some (.dup, 0, 0, 0) := rfl
theorem f262_228 : fetch 262 228 = some (.getfield 430, 12, 68, 0) := rfl
theorem f262_231 : fetch 262 231 = some (.iconst 1, 0, 0, 0) := rfl
theorem f262_232 : fetch 262 232 = some (.isub, 0, 0, 0) := rfl
theorem f262_233 : fetch 262 233 = some (.putfield 430, 12, 68, 0) := rfl
theorem f262_236 : fetch 262 236 = some (.aload_n 0, 0, 0, 0) := rfl
theorem f262_237 : fetch 262 237 = some (.aload_n 0, 0, 0, 0) := rfl
theorem f262_238 : fetch 262 238 = some (.getfield 156, 12, 69, 2) := rfl
theorem f262_241 : fetch 262 241 = some (.aload_n 0, 0, 0, 0) := rfl
theorem f262_242 : fetch 262 242 = some (.getfield 430, 12, 68, 0) := rfl
theorem f262_245 : fetch 262 245 = some (.iaload, 0, 0, 0) := rfl
theorem f262_246 : fetch 262 246 = some (.iconst 0, 0, 0, 0) := rfl
theorem f262_247 : fetch 262 247 = some (.invokevirtual 439, 252, 2, 0) := rfl
theorem f262_250 : fetch 262 250 = some (.iconst 3, 0, 0, 0) := rfl
theorem f262_251 : fetch 262 251 = some (.ireturn, 0, 0, 0) := rfl
set_option maxRecDepth 100000 in
set_option maxHeartbeats 4000000 in
theorem p262_j131_ok (d : Nat) (F : Nat) (a0 : Int32) (h : HS) (w : WF h) (v2 : Int32) (r : Int32 × HS) (hp : p262_j131 F a0 h v2 = some r) : ex (d + 2) 262 (131, [some (.ref (86)), some (.int (a0)), some (.int (v2)), none, none], [], h) = some (some (.int (r.1)), r.2) := by
  unfold p262_j131 at hp
  refine e_aload_n f262_131 rfl ?_
  refine e_getI f262_132 (WF.t w 86 (by decide)) (by decide) ?_
  refine e_istore_n (ls2 := [some (.ref (86)), some (.int (a0)), some (.int (v2)), some (.int (hI (h) (86) 53)), none]) f262_135 (Nat.le_of_ble_eq_true rfl) rfl ?_
  refine e_aload_n f262_136 rfl ?_
  obtain ⟨r18, hr19, hp⟩ := bind_some hp
  try dsimp only at hp
  refine e_callV (st := []) (o := 86) (as := []) f262_137 (by decide) rfl rfl (Nat.le_of_ble_eq_true rfl) (WF.t w 86 (by decide)) (Nat.le_of_ble_eq_true rfl) (p254_ok (d + 1) (h) w r18 hr19) ?_
  show ex _ 262 (140, [some (.ref (86)), some (.int (a0)), some (.int (v2)), some (.int (hI (h) (86) 53)), none], [.int (r18)], h) = _
  refine e_bipush (v := 15) f262_140 (by decide) ?_
  by_cases hc20 : (r18) = ((15) : Int32)
  · rw [if_pos hc20] at hp
    refine e_icmp_ne_f f262_142 hc20 ?_
    refine e_aload_n f262_145 rfl ?_
    refine e_iconst (v := 0) f262_146 (by decide) ?_
    refine e_iload_n f262_147 rfl ?_
    obtain ⟨r21, hr22, hp⟩ := bind_some hp
    try dsimp only at hp
    refine e_callV (st := []) (o := 86) (as := [.int (0), .int (hI (h) (86) 53)]) f262_148 (by decide) rfl rfl (Nat.le_of_ble_eq_true rfl) (WF.t w 86 (by decide)) (Nat.le_of_ble_eq_true rfl) (p244_ok (d + 1) (h) w (0) (hI (h) (86) 53) r21 hr22) ?_
    show ex _ 262 (151, [some (.ref (86)), some (.int (a0)), some (.int (v2)), some (.int (hI (h) (86) 53)), none], [], r21) = _
    refine e_iconst (v := 4) f262_151 (by decide) ?_
    have hp := Option.some.inj hp
    subst hp
    exact e_ireturn f262_152 (Or.inl rfl)
  · rw [if_neg hc20] at hp
    refine e_icmp_ne_t f262_142 hc20 ?_
    refine e_iload_n f262_153 rfl ?_
    by_cases hc23 : (a0) = (0 : Int32)
    · rw [if_pos hc23] at hp
      refine e_if_eq_t f262_154 hc23 ?_
      refine e_aload_n f262_182 rfl ?_
      obtain ⟨r24, hr25, hp⟩ := bind_some hp
      try dsimp only at hp
      refine e_callV (st := []) (o := 86) (as := []) f262_183 (by decide) rfl rfl (Nat.le_of_ble_eq_true rfl) (WF.t w 86 (by decide)) (Nat.le_of_ble_eq_true rfl) (p254_ok (d + 1) (h) w r24 hr25) ?_
      show ex _ 262 (186, [some (.ref (86)), some (.int (a0)), some (.int (v2)), some (.int (hI (h) (86) 53)), none], [.int (r24)], h) = _
      obtain ⟨r26, hr27, hp⟩ := bind_some hp
      try dsimp only at hp
      refine e_callS (st := []) (as := [.int (r24)]) f262_186 (by decide) rfl rfl (Nat.le_of_ble_eq_true rfl) (Nat.le_of_ble_eq_true rfl) (p255_ok (d + 1) (h) w (r24) r26 hr27) ?_
      show ex _ 262 (189, [some (.ref (86)), some (.int (a0)), some (.int (v2)), some (.int (hI (h) (86) 53)), none], [.int (r26)], h) = _
      by_cases hc28 : (r26) = (0 : Int32)
      · rw [if_pos hc28] at hp
        refine e_if_ne_f f262_189 hc28 ?_
        refine e_aload_n f262_192 rfl ?_
        obtain ⟨r29, hr30, hp⟩ := bind_some hp
        try dsimp only at hp
        refine e_callV (st := []) (o := 86) (as := []) f262_193 (by decide) rfl rfl (Nat.le_of_ble_eq_true rfl) (WF.t w 86 (by decide)) (Nat.le_of_ble_eq_true rfl) (p260_ok d (h) w r29 hr30) ?_
        show ex _ 262 (196, [some (.ref (86)), some (.int (a0)), some (.int (v2)), some (.int (hI (h) (86) 53)), none], [.int (r29.1)], r29.2) = _
        refine e_istore (ls2 := [some (.ref (86)), some (.int (a0)), some (.int (v2)), some (.int (hI (h) (86) 53)), some (.int (r29.1))]) f262_196 (Nat.le_of_ble_eq_true rfl) rfl ?_
        refine e_iload f262_198 rfl ?_
        refine e_iconst (v := -1) f262_200 (by decide) ?_
        by_cases hc31 : (r29.1) = (((-1)) : Int32)
        · rw [if_pos hc31] at hp
          refine e_icmp_ne_f f262_201 hc31 ?_
          refine e_aload_n f262_204 rfl ?_
          refine e_iconst (v := 0) f262_205 (by decide) ?_
          refine e_iload_n f262_206 rfl ?_
          obtain ⟨r32, hr33, hp⟩ := bind_some hp
          try dsimp only at hp
          refine e_callV (st := []) (o := 86) (as := [.int (0), .int (hI (h) (86) 53)]) f262_207 (by decide) rfl rfl (Nat.le_of_ble_eq_true rfl) (WF.t (p260_w (h) w  r29 hr30) 86 (by decide)) (Nat.le_of_ble_eq_true rfl) (p244_ok (d + 1) (r29.2) (p260_w (h) w  r29 hr30) (0) (hI (h) (86) 53) r32 hr33) ?_
          show ex _ 262 (210, [some (.ref (86)), some (.int (a0)), some (.int (v2)), some (.int (hI (h) (86) 53)), some (.int (r29.1))], [], r32) = _
          refine e_goto f262_210 ?_
          refine e_iconst (v := 1) f262_224 (by decide) ?_
          have hp := Option.some.inj hp
          subst hp
          exact e_ireturn f262_225 (Or.inl rfl)
        · rw [if_neg hc31] at hp
          refine e_icmp_ne_t f262_201 hc31 ?_
          refine e_aload_n f262_213 rfl ?_
          refine e_iload_n f262_214 rfl ?_
          obtain ⟨r34, hr35, hp⟩ := bind_some hp
          try dsimp only at hp
          refine e_callV (st := []) (o := 86) (as := [.int (hI (h) (86) 53)]) f262_215 (by decide) rfl rfl (Nat.le_of_ble_eq_true rfl) (WF.t (p260_w (h) w  r29 hr30) 86 (by decide)) (Nat.le_of_ble_eq_true rfl) (p258_ok d (r29.2) (p260_w (h) w  r29 hr30) (hI (h) (86) 53) r34 hr35) ?_
          show ex _ 262 (218, [some (.ref (86)), some (.int (a0)), some (.int (v2)), some (.int (hI (h) (86) 53)), some (.int (r29.1))], [], r34) = _
          refine e_aload_n f262_218 rfl ?_
          refine e_iload f262_219 rfl ?_
          obtain ⟨r36, hr37, hp⟩ := bind_some hp
          try dsimp only at hp
          refine e_callV (st := []) (o := 86) (as := [.int (r29.1)]) f262_221 (by decide) rfl rfl (Nat.le_of_ble_eq_true rfl) (WF.t (p258_w (r29.2) (p260_w (h) w  r29 hr30) (hI (h) (86) 53)  r34 hr35) 86 (by decide)) (Nat.le_of_ble_eq_true rfl) (p253_ok (d + 1) (r34) (p258_w (r29.2) (p260_w (h) w  r29 hr30) (hI (h) (86) 53)  r34 hr35) (r29.1) r36 hr37) ?_
          show ex _ 262 (224, [some (.ref (86)), some (.int (a0)), some (.int (v2)), some (.int (hI (h) (86) 53)), some (.int (r29.1))], [], r36) = _
          refine e_iconst (v := 1) f262_224 (by decide) ?_
          have hp := Option.some.inj hp
          subst hp
          exact e_ireturn f262_225 (Or.inl rfl)
      · rw [if_neg hc28] at hp
        refine e_if_ne_t f262_189 hc28 ?_
        refine e_aload_n f262_226 rfl ?_
        refine e_dup f262_227 rfl ?_
        refine e_getI f262_228 (WF.t w 86 (by decide)) (by decide) ?_
        refine e_iconst (v := 1) f262_231 (by decide) ?_
        refine e_isub f262_232 ?_
        refine e_putI f262_233 (WF.t w 86 (by decide)) rfl ?_
        refine e_aload_n f262_236 rfl ?_
        refine e_aload_n f262_237 rfl ?_
        refine e_getR f262_238 (WF.t w 86 (by decide)) rfl (WF.r (q := 135) w 86 69 (by decide)) ?_
        refine e_aload_n f262_241 rfl ?_
        refine e_getI f262_242 (WF.t w 86 (by decide)) (by decide) ?_
        by_cases hg38 : (hI (hsI (h) (86) 68 ((hI (h) (86) 68) - (1))) (86) 68) < (0 : Int32) ∨ 400 ≤ (hI (hsI (h) (86) 68 ((hI (h) (86) 68) - (1))) (86) 68).toNatClampNeg
        · rw [if_pos hg38] at hp; cases hp
        rw [if_neg hg38] at hp
        refine e_iaload f262_245 (Or.inl (WF.t w 135 (by decide))) (WF.n w 135 (by decide)) hg38 ?_
        refine e_iconst (v := 0) f262_246 (by decide) ?_
        obtain ⟨r39, hr40, hp⟩ := bind_some hp
        try dsimp only at hp
        refine e_callV (st := []) (o := 86) (as := [.int (hI (hsI (h) (86) 68 ((hI (h) (86) 68) - (1))) (135) (hI (hsI (h) (86) 68 ((hI (h) (86) 68) - (1))) (86) 68).toNatClampNeg), .int (0)]) f262_247 (by decide) rfl rfl (Nat.le_of_ble_eq_true rfl) (WF.t w 86 (by decide)) (Nat.le_of_ble_eq_true rfl) (p252_ok (d + 1) (hsI (h) (86) 68 ((hI (h) (86) 68) - (1))) w (hI (hsI (h) (86) 68 ((hI (h) (86) 68) - (1))) (135) (hI (hsI (h) (86) 68 ((hI (h) (86) 68) - (1))) (86) 68).toNatClampNeg) (0) r39 hr40) ?_
        show ex _ 262 (250, [some (.ref (86)), some (.int (a0)), some (.int (v2)), some (.int (hI (h) (86) 53)), none], [], r39) = _
        refine e_iconst (v := 3) f262_250 (by decide) ?_
        have hp := Option.some.inj hp
        subst hp
        exact e_ireturn f262_251 (Or.inl rfl)
    · rw [if_neg hc23] at hp
      refine e_if_eq_f f262_154 hc23 ?_
      refine e_aload_n f262_157 rfl ?_
      refine e_getI f262_158 (WF.t w 86 (by decide)) (by decide) ?_
      refine e_aload_n f262_161 rfl ?_
      refine e_getI f262_162 (WF.t w 86 (by decide)) (by decide) ?_
      by_cases hc41 : (hI (h) (86) 53) < ((hI (h) (86) 52) : Int32)
      · rw [if_pos hc41] at hp
        refine e_icmp_ge_f f262_165 hc41 ?_
        refine e_iload_n f262_168 rfl ?_
        refine e_bipush (v := 59) f262_169 (by decide) ?_
        by_cases hc42 : (v2) = ((59) : Int32)
        · rw [if_pos hc42] at hp
          refine e_icmp_eq_t f262_171 hc42 ?_
          refine e_iconst (v := 4) f262_180 (by decide) ?_
          have hp := Option.some.inj hp
          subst hp
          exact e_ireturn f262_181 (Or.inl rfl)
        · rw [if_neg hc42] at hp
          refine e_icmp_eq_f f262_171 hc42 ?_
          refine e_aload_n f262_174 rfl ?_
          refine e_iconst (v := 0) f262_175 (by decide) ?_
          refine e_iload_n f262_176 rfl ?_
          obtain ⟨r43, hr44, hp⟩ := bind_some hp
          try dsimp only at hp
          refine e_callV (st := []) (o := 86) (as := [.int (0), .int (hI (h) (86) 53)]) f262_177 (by decide) rfl rfl (Nat.le_of_ble_eq_true rfl) (WF.t w 86 (by decide)) (Nat.le_of_ble_eq_true rfl) (p244_ok (d + 1) (h) w (0) (hI (h) (86) 53) r43 hr44) ?_
          show ex _ 262 (180, [some (.ref (86)), some (.int (a0)), some (.int (v2)), some (.int (hI (h) (86) 53)), none], [], r43) = _
          refine e_iconst (v := 4) f262_180 (by decide) ?_
          have hp := Option.some.inj hp
          subst hp
          exact e_ireturn f262_181 (Or.inl rfl)
      · rw [if_neg hc41] at hp
        refine e_icmp_ge_t f262_165 hc41 ?_
        refine e_iconst (v := 4) f262_180 (by decide) ?_
        have hp := Option.some.inj hp
        subst hp
        exact e_ireturn f262_181 (Or.inl rfl)
set_option maxRecDepth 100000 in
set_option maxHeartbeats 4000000 in
theorem p262_j131_w (F : Nat) (a0 : Int32) (h : HS) (w : WF h) (v2 : Int32) (r : Int32 × HS) (hp : p262_j131 F a0 h v2 = some r) : WF r.2 := by
  unfold p262_j131 at hp
  obtain ⟨r18, hr19, hp⟩ := bind_some hp
  try dsimp only at hp
  by_cases hc20 : (r18) = ((15) : Int32)
  · rw [if_pos hc20] at hp
    obtain ⟨r21, hr22, hp⟩ := bind_some hp
    try dsimp only at hp
    have hp := Option.some.inj hp
    subst hp
    exact ((p244_w (h) w (0) (hI (h) (86) 53)  r21 hr22))
  · rw [if_neg hc20] at hp
    by_cases hc23 : (a0) = (0 : Int32)
    · rw [if_pos hc23] at hp
      obtain ⟨r24, hr25, hp⟩ := bind_some hp
      try dsimp only at hp
      obtain ⟨r26, hr27, hp⟩ := bind_some hp
      try dsimp only at hp
      by_cases hc28 : (r26) = (0 : Int32)
      · rw [if_pos hc28] at hp
        obtain ⟨r29, hr30, hp⟩ := bind_some hp
        try dsimp only at hp
        by_cases hc31 : (r29.1) = (((-1)) : Int32)
        · rw [if_pos hc31] at hp
          obtain ⟨r32, hr33, hp⟩ := bind_some hp
          try dsimp only at hp
          have hp := Option.some.inj hp
          subst hp
          exact ((p244_w (r29.2) (p260_w (h) w  r29 hr30) (0) (hI (h) (86) 53)  r32 hr33))
        · rw [if_neg hc31] at hp
          obtain ⟨r34, hr35, hp⟩ := bind_some hp
          try dsimp only at hp
          obtain ⟨r36, hr37, hp⟩ := bind_some hp
          try dsimp only at hp
          have hp := Option.some.inj hp
          subst hp
          exact ((p253_w (r34) (p258_w (r29.2) (p260_w (h) w  r29 hr30) (hI (h) (86) 53)  r34 hr35) (r29.1)  r36 hr37))
      · rw [if_neg hc28] at hp
        by_cases hg38 : (hI (hsI (h) (86) 68 ((hI (h) (86) 68) - (1))) (86) 68) < (0 : Int32) ∨ 400 ≤ (hI (hsI (h) (86) 68 ((hI (h) (86) 68) - (1))) (86) 68).toNatClampNeg
        · rw [if_pos hg38] at hp; cases hp
        rw [if_neg hg38] at hp
        obtain ⟨r39, hr40, hp⟩ := bind_some hp
        try dsimp only at hp
        have hp := Option.some.inj hp
        subst hp
        exact ((p252_w (hsI (h) (86) 68 ((hI (h) (86) 68) - (1))) w (hI (hsI (h) (86) 68 ((hI (h) (86) 68) - (1))) (135) (hI (hsI (h) (86) 68 ((hI (h) (86) 68) - (1))) (86) 68).toNatClampNeg) (0)  r39 hr40))
    · rw [if_neg hc23] at hp
      by_cases hc41 : (hI (h) (86) 53) < ((hI (h) (86) 52) : Int32)
      · rw [if_pos hc41] at hp
        by_cases hc42 : (v2) = ((59) : Int32)
        · rw [if_pos hc42] at hp
          have hp := Option.some.inj hp
          subst hp
          exact (w)
        · rw [if_neg hc42] at hp
          obtain ⟨r43, hr44, hp⟩ := bind_some hp
          try dsimp only at hp
          have hp := Option.some.inj hp
          subst hp
          exact ((p244_w (h) w (0) (hI (h) (86) 53)  r43 hr44))
      · rw [if_neg hc41] at hp
        have hp := Option.some.inj hp
        subst hp
        exact (w)
set_option maxRecDepth 100000 in
set_option maxHeartbeats 4000000 in
theorem p262_j64_ok (d : Nat) (F : Nat) (a0 : Int32) (h : HS) (w : WF h) (s0 : Int32) (r : Int32 × HS) (hp : p262_j64 F a0 h s0 = some r) : ex (d + 2) 262 (64, [some (.ref (86)), none, none, none, none], [.int (s0), .ref (86)], h) = some (some (.int (r.1)), r.2) := by
  unfold p262_j64 at hp
  obtain ⟨r49, hr50, hp⟩ := bind_some hp
  try dsimp only at hp
  refine e_callV (st := []) (o := 86) (as := [.int (s0)]) f262_64 (by decide) rfl rfl (Nat.le_of_ble_eq_true rfl) (WF.t w 86 (by decide)) (Nat.le_of_ble_eq_true rfl) (p253_ok (d + 1) (h) w (s0) r49 hr50) ?_
  show ex _ 262 (67, [some (.ref (86)), none, none, none, none], [], r49) = _
  refine e_aload_n f262_67 rfl ?_
  refine e_dup f262_68 rfl ?_
  refine e_getI f262_69 (WF.t (p253_w (h) w (s0)  r49 hr50) 86 (by decide)) (by decide) ?_
  refine e_iconst (v := 1) f262_72 (by decide) ?_
  refine e_iadd f262_73 ?_
  refine e_putI f262_74 (WF.t (p253_w (h) w (s0)  r49 hr50) 86 (by decide)) rfl ?_
  refine e_iconst (v := 1) f262_77 (by decide) ?_
  have hp := Option.some.inj hp
  subst hp
  exact e_ireturn f262_78 (Or.inl rfl)
set_option maxRecDepth 100000 in
set_option maxHeartbeats 4000000 in
theorem p262_j64_w (F : Nat) (a0 : Int32) (h : HS) (w : WF h) (s0 : Int32) (r : Int32 × HS) (hp : p262_j64 F a0 h s0 = some r) : WF r.2 := by
  unfold p262_j64 at hp
  obtain ⟨r49, hr50, hp⟩ := bind_some hp
  try dsimp only at hp
  have hp := Option.some.inj hp
  subst hp
  exact ((p253_w (h) w (s0)  r49 hr50))
set_option maxRecDepth 100000 in
set_option maxHeartbeats 4000000 in
theorem p262_j39_ok (d : Nat) (F : Nat) (a0 : Int32) (h : HS) (w : WF h) (v2 : Int32) (s0 : Int32) (r : Int32 × HS) (hp : p262_j39 F a0 h v2 s0 = some r) : ex (d + 2) 262 (39, [some (.ref (86)), none, some (.int (v2)), none, none], [.int (s0), .ref (86)], h) = some (some (.int (r.1)), r.2) := by
  unfold p262_j39 at hp
  obtain ⟨r45, hr46, hp⟩ := bind_some hp
  try dsimp only at hp
  refine e_callV (st := []) (o := 86) (as := [.int (s0)]) f262_39 (by decide) rfl rfl (Nat.le_of_ble_eq_true rfl) (WF.t w 86 (by decide)) (Nat.le_of_ble_eq_true rfl) (p257_ok d F (h) w (s0) r45 hr46) ?_
  show ex _ 262 (42, [some (.ref (86)), none, some (.int (v2)), none, none], [], r45) = _
  refine e_aload_n f262_42 rfl ?_
  refine e_iload_n f262_43 rfl ?_
  refine e_bipush (v := 42) f262_44 (by decide) ?_
  by_cases hc47 : (v2) = ((42) : Int32)
  · rw [if_pos hc47] at hp
    refine e_icmp_ne_f f262_46 hc47 ?_
    refine e_iconst (v := 5) f262_49 (by decide) ?_
    refine e_goto f262_50 ?_
    refine ex_weak (ls := [some (.ref (86)), none, none, none, none]) (le2_ok ⟨Or.inr rfl, Or.inl rfl, Or.inl rfl, Or.inl rfl, Or.inl rfl, trivial⟩) ?_
    exact p262_j64_ok d F a0 (r45) ((p257_w F (h) w (s0)  r45 hr46)) (5) _ hp
  · rw [if_neg hc47] at hp
    refine e_icmp_ne_t f262_46 hc47 ?_
    refine e_iload_n f262_53 rfl ?_
    refine e_bipush (v := 43) f262_54 (by decide) ?_
    by_cases hc48 : (v2) = ((43) : Int32)
    · rw [if_pos hc48] at hp
      refine e_icmp_ne_f f262_56 hc48 ?_
      refine e_iconst (v := 3) f262_59 (by decide) ?_
      refine e_goto f262_60 ?_
      refine ex_weak (ls := [some (.ref (86)), none, none, none, none]) (le2_ok ⟨Or.inr rfl, Or.inl rfl, Or.inl rfl, Or.inl rfl, Or.inl rfl, trivial⟩) ?_
      exact p262_j64_ok d F a0 (r45) ((p257_w F (h) w (s0)  r45 hr46)) (3) _ hp
    · rw [if_neg hc48] at hp
      refine e_icmp_ne_t f262_56 hc48 ?_
      refine e_iconst (v := 4) f262_63 (by decide) ?_
      refine ex_weak (ls := [some (.ref (86)), none, none, none, none]) (le2_ok ⟨Or.inr rfl, Or.inl rfl, Or.inl rfl, Or.inl rfl, Or.inl rfl, trivial⟩) ?_
      exact p262_j64_ok d F a0 (r45) ((p257_w F (h) w (s0)  r45 hr46)) (4) _ hp
set_option maxRecDepth 100000 in
set_option maxHeartbeats 4000000 in
theorem p262_j39_w (F : Nat) (a0 : Int32) (h : HS) (w : WF h) (v2 : Int32) (s0 : Int32) (r : Int32 × HS) (hp : p262_j39 F a0 h v2 s0 = some r) : WF r.2 := by
  unfold p262_j39 at hp
  obtain ⟨r45, hr46, hp⟩ := bind_some hp
  try dsimp only at hp
  by_cases hc47 : (v2) = ((42) : Int32)
  · rw [if_pos hc47] at hp
    exact p262_j64_w F a0 (r45) ((p257_w F (h) w (s0)  r45 hr46)) (5) _ hp
  · rw [if_neg hc47] at hp
    by_cases hc48 : (v2) = ((43) : Int32)
    · rw [if_pos hc48] at hp
      exact p262_j64_w F a0 (r45) ((p257_w F (h) w (s0)  r45 hr46)) (3) _ hp
    · rw [if_neg hc48] at hp
      exact p262_j64_w F a0 (r45) ((p257_w F (h) w (s0)  r45 hr46)) (4) _ hp
set_option maxRecDepth 100000 in
set_option maxHeartbeats 4000000 in
theorem p262_j27_ok (d : Nat) (F : Nat) (a0 : Int32) (h : HS) (w : WF h) (v2 : Int32) (r : Int32 × HS) (hp : p262_j27 F a0 h v2 = some r) : ex (d + 2) 262 (27, [some (.ref (86)), none, some (.int (v2)), none, none], [], h) = some (some (.int (r.1)), r.2) := by
  unfold p262_j27 at hp
  refine e_aload_n f262_27 rfl ?_
  refine e_iload_n f262_28 rfl ?_
  refine e_bipush (v := 42) f262_29 (by decide) ?_
  by_cases hc17 : (v2) = ((42) : Int32)
  · rw [if_pos hc17] at hp
    refine e_icmp_ne_f f262_31 hc17 ?_
    refine e_iconst (v := 1) f262_34 (by decide) ?_
    refine e_goto f262_35 ?_
    refine ex_weak (ls := [some (.ref (86)), none, some (.int (v2)), none, none]) (le2_ok ⟨Or.inr rfl, Or.inl rfl, Or.inr rfl, Or.inl rfl, Or.inl rfl, trivial⟩) ?_
    exact p262_j39_ok d F a0 (h) (w) (v2) (1) _ hp
  · rw [if_neg hc17] at hp
    refine e_icmp_ne_t f262_31 hc17 ?_
    refine e_iconst (v := 0) f262_38 (by decide) ?_
    refine ex_weak (ls := [some (.ref (86)), none, some (.int (v2)), none, none]) (le2_ok ⟨Or.inr rfl, Or.inl rfl, Or.inr rfl, Or.inl rfl, Or.inl rfl, trivial⟩) ?_
    exact p262_j39_ok d F a0 (h) (w) (v2) (0) _ hp
set_option maxRecDepth 100000 in
set_option maxHeartbeats 4000000 in
theorem p262_j27_w (F : Nat) (a0 : Int32) (h : HS) (w : WF h) (v2 : Int32) (r : Int32 × HS) (hp : p262_j27 F a0 h v2 = some r) : WF r.2 := by
  unfold p262_j27 at hp
  by_cases hc17 : (v2) = ((42) : Int32)
  · rw [if_pos hc17] at hp
    exact p262_j39_w F a0 (h) (w) (v2) (1) _ hp
  · rw [if_neg hc17] at hp
    exact p262_j39_w F a0 (h) (w) (v2) (0) _ hp
set_option maxRecDepth 100000 in
set_option maxHeartbeats 4000000 in
theorem p262_ok (d : Nat) (F : Nat) (h : HS) (w : WF h) (a0 : Int32) (r : Int32 × HS) (hp : p262 F h a0 = some r) : ex (d + 2) 262 (ent 262 [.ref (86), .int (a0)] h) = some (some (.int (r.1)), r.2) := by
  rw [show ent 262 [.ref (86), .int (a0)] h = (0, [some (.ref (86)), some (.int (a0)), none, none, none], [], h) from by  rfl]
  refine ex_weak (ls := [some (.ref (86)), some (.int (a0)), none, none, none]) (le2_ok ⟨Or.inr rfl, Or.inr rfl, Or.inr rfl, Or.inr rfl, Or.inr rfl, trivial⟩) ?_
  unfold p262 at hp
  refine e_aload_n f262_0 rfl ?_
  obtain ⟨r1, hr2, hp⟩ := bind_some hp
  try dsimp only at hp
  refine e_callV (st := []) (o := 86) (as := []) f262_1 (by decide) rfl rfl (Nat.le_of_ble_eq_true rfl) (WF.t w 86 (by decide)) (Nat.le_of_ble_eq_true rfl) (p245_ok (d + 1) F (h) w r1 hr2) ?_
  show ex _ 262 (4, [some (.ref (86)), some (.int (a0)), none, none, none], [], r1) = _
  refine e_aload_n f262_4 rfl ?_
  obtain ⟨r3, hr4, hp⟩ := bind_some hp
  try dsimp only at hp
  refine e_callV (st := []) (o := 86) (as := []) f262_5 (by decide) rfl rfl (Nat.le_of_ble_eq_true rfl) (WF.t (p245_w F (h) w  r1 hr2) 86 (by decide)) (Nat.le_of_ble_eq_true rfl) (p246_ok (d + 1) (r1) (p245_w F (h) w  r1 hr2) r3 hr4) ?_
  show ex _ 262 (8, [some (.ref (86)), some (.int (a0)), none, none, none], [.int (r3)], r1) = _
  refine e_istore_n (ls2 := [some (.ref (86)), some (.int (a0)), some (.int (r3)), none, none]) f262_8 (Nat.le_of_ble_eq_true rfl) rfl ?_
  refine e_iload_n f262_9 rfl ?_
  refine e_bipush (v := 42) f262_10 (by decide) ?_
  by_cases hc5 : (r3) = ((42) : Int32)
  · rw [if_pos hc5] at hp
    refine e_icmp_eq_t f262_12 hc5 ?_
    refine ex_weak (ls := [some (.ref (86)), none, some (.int (r3)), none, none]) (le2_ok ⟨Or.inr rfl, Or.inl rfl, Or.inr rfl, Or.inl rfl, Or.inl rfl, trivial⟩) ?_
    exact p262_j27_ok d F a0 (r1) ((p245_w F (h) w  r1 hr2)) (r3) _ hp
  · rw [if_neg hc5] at hp
    refine e_icmp_eq_f f262_12 hc5 ?_
    refine e_iload_n f262_15 rfl ?_
    refine e_bipush (v := 43) f262_16 (by decide) ?_
    by_cases hc6 : (r3) = ((43) : Int32)
    · rw [if_pos hc6] at hp
      refine e_icmp_eq_t f262_18 hc6 ?_
      refine ex_weak (ls := [some (.ref (86)), none, some (.int (r3)), none, none]) (le2_ok ⟨Or.inr rfl, Or.inl rfl, Or.inr rfl, Or.inl rfl, Or.inl rfl, trivial⟩) ?_
      exact p262_j27_ok d F a0 (r1) ((p245_w F (h) w  r1 hr2)) (r3) _ hp
    · rw [if_neg hc6] at hp
      refine e_icmp_eq_f f262_18 hc6 ?_
      refine e_iload_n f262_21 rfl ?_
      refine e_bipush (v := 45) f262_22 (by decide) ?_
      by_cases hc7 : (r3) = ((45) : Int32)
      · rw [if_pos hc7] at hp
        refine e_icmp_ne_f f262_24 hc7 ?_
        refine ex_weak (ls := [some (.ref (86)), none, some (.int (r3)), none, none]) (le2_ok ⟨Or.inr rfl, Or.inl rfl, Or.inr rfl, Or.inl rfl, Or.inl rfl, trivial⟩) ?_
        exact p262_j27_ok d F a0 (r1) ((p245_w F (h) w  r1 hr2)) (r3) _ hp
      · rw [if_neg hc7] at hp
        refine e_icmp_ne_t f262_24 hc7 ?_
        refine e_aload_n f262_79 rfl ?_
        refine e_iconst (v := 0) f262_80 (by decide) ?_
        obtain ⟨r8, hr9, hp⟩ := bind_some hp
        try dsimp only at hp
        refine e_callV (st := []) (o := 86) (as := [.int (0)]) f262_81 (by decide) rfl rfl (Nat.le_of_ble_eq_true rfl) (WF.t (p245_w F (h) w  r1 hr2) 86 (by decide)) (Nat.le_of_ble_eq_true rfl) (p257_ok d F (r1) (p245_w F (h) w  r1 hr2) (0) r8 hr9) ?_
        show ex _ 262 (84, [some (.ref (86)), some (.int (a0)), some (.int (r3)), none, none], [], r8) = _
        refine e_iload_n f262_84 rfl ?_
        refine e_bipush (v := 41) f262_85 (by decide) ?_
        by_cases hc10 : (r3) = ((41) : Int32)
        · rw [if_pos hc10] at hp
          refine e_icmp_ne_f f262_87 hc10 ?_
          refine e_aload_n f262_90 rfl ?_
          obtain ⟨r11, hr12, hp⟩ := bind_some hp
          try dsimp only at hp
          refine e_callV (st := []) (o := 86) (as := []) f262_91 (by decide) rfl rfl (Nat.le_of_ble_eq_true rfl) (WF.t (p257_w F (r1) (p245_w F (h) w  r1 hr2) (0)  r8 hr9) 86 (by decide)) (Nat.le_of_ble_eq_true rfl) (p254_ok (d + 1) (r8) (p257_w F (r1) (p245_w F (h) w  r1 hr2) (0)  r8 hr9) r11 hr12) ?_
          show ex _ 262 (94, [some (.ref (86)), some (.int (a0)), some (.int (r3)), none, none], [.int (r11)], r8) = _
          refine e_bipush (v := 15) f262_94 (by decide) ?_
          by_cases hc13 : (r11) = ((15) : Int32)
          · rw [if_pos hc13] at hp
            refine e_icmp_ne_f f262_96 hc13 ?_
            refine e_aload_n f262_99 rfl ?_
            refine e_dup f262_100 rfl ?_
            refine e_getI f262_101 (WF.t (p257_w F (r1) (p245_w F (h) w  r1 hr2) (0)  r8 hr9) 86 (by decide)) (by decide) ?_
            refine e_iconst (v := 1) f262_104 (by decide) ?_
            refine e_isub f262_105 ?_
            refine e_putI f262_106 (WF.t (p257_w F (r1) (p245_w F (h) w  r1 hr2) (0)  r8 hr9) 86 (by decide)) rfl ?_
            refine e_aload_n f262_109 rfl ?_
            refine e_dup f262_110 rfl ?_
            refine e_getI f262_111 (WF.t (p257_w F (r1) (p245_w F (h) w  r1 hr2) (0)  r8 hr9) 86 (by decide)) (by decide) ?_
            refine e_iconst (v := 1) f262_114 (by decide) ?_
            refine e_isub f262_115 ?_
            refine e_putI f262_116 (WF.t (p257_w F (r1) (p245_w F (h) w  r1 hr2) (0)  r8 hr9) 86 (by decide)) rfl ?_
            obtain ⟨h14, e15, hp⟩ := bind_some hp
            try dsimp only at hp
            have e15 := Option.some.inj e15
            have w16 : WF h14 := e15 ▸ (p257_w F (r1) (p245_w F (h) w  r1 hr2) (0)  r8 hr9)
            rw [e15]
            refine e_aload_n f262_119 rfl ?_
            refine e_dup f262_120 rfl ?_
            refine e_getI f262_121 (WF.t w16 86 (by decide)) (by decide) ?_
            refine e_iconst (v := 1) f262_124 (by decide) ?_
            refine e_iadd f262_125 ?_
            refine e_putI f262_126 (WF.t w16 86 (by decide)) rfl ?_
            refine e_iconst (v := 2) f262_129 (by decide) ?_
            have hp := Option.some.inj hp
            subst hp
            exact e_ireturn f262_130 (Or.inl rfl)
          · rw [if_neg hc13] at hp
            refine e_icmp_ne_t f262_96 hc13 ?_
            refine ex_weak (ls := [some (.ref (86)), some (.int (a0)), some (.int (r3)), none, none]) (le2_ok ⟨Or.inr rfl, Or.inr rfl, Or.inr rfl, Or.inl rfl, Or.inl rfl, trivial⟩) ?_
            exact p262_j131_ok d F a0 (r8) ((p257_w F (r1) (p245_w F (h) w  r1 hr2) (0)  r8 hr9)) (r3) _ hp
        · rw [if_neg hc10] at hp
          refine e_icmp_ne_t f262_87 hc10 ?_
          refine ex_weak (ls := [some (.ref (86)), some (.int (a0)), some (.int (r3)), none, none]) (le2_ok ⟨Or.inr rfl, Or.inr rfl, Or.inr rfl, Or.inl rfl, Or.inl rfl, trivial⟩) ?_
          exact p262_j131_ok d F a0 (r8) ((p257_w F (r1) (p245_w F (h) w  r1 hr2) (0)  r8 hr9)) (r3) _ hp
set_option maxRecDepth 100000 in
set_option maxHeartbeats 4000000 in
theorem p262_w (F : Nat) (h : HS) (w : WF h) (a0 : Int32) (r : Int32 × HS) (hp : p262 F h a0 = some r) : WF r.2 := by
  unfold p262 at hp
  obtain ⟨r1, hr2, hp⟩ := bind_some hp
  try dsimp only at hp
  obtain ⟨r3, hr4, hp⟩ := bind_some hp
  try dsimp only at hp
  by_cases hc5 : (r3) = ((42) : Int32)
  · rw [if_pos hc5] at hp
    exact p262_j27_w F a0 (r1) ((p245_w F (h) w  r1 hr2)) (r3) _ hp
  · rw [if_neg hc5] at hp
    by_cases hc6 : (r3) = ((43) : Int32)
    · rw [if_pos hc6] at hp
      exact p262_j27_w F a0 (r1) ((p245_w F (h) w  r1 hr2)) (r3) _ hp
    · rw [if_neg hc6] at hp
      by_cases hc7 : (r3) = ((45) : Int32)
      · rw [if_pos hc7] at hp
        exact p262_j27_w F a0 (r1) ((p245_w F (h) w  r1 hr2)) (r3) _ hp
      · rw [if_neg hc7] at hp
        obtain ⟨r8, hr9, hp⟩ := bind_some hp
        try dsimp only at hp
        by_cases hc10 : (r3) = ((41) : Int32)
        · rw [if_pos hc10] at hp
          obtain ⟨r11, hr12, hp⟩ := bind_some hp
          try dsimp only at hp
          by_cases hc13 : (r11) = ((15) : Int32)
          · rw [if_pos hc13] at hp
            obtain ⟨h14, e15, hp⟩ := bind_some hp
            try dsimp only at hp
            have e15 := Option.some.inj e15
            have w16 : WF h14 := e15 ▸ (p257_w F (r1) (p245_w F (h) w  r1 hr2) (0)  r8 hr9)
            have hp := Option.some.inj hp
            subst hp
            exact (w16)
          · rw [if_neg hc13] at hp
            exact p262_j131_w F a0 (r8) ((p257_w F (r1) (p245_w F (h) w  r1 hr2) (0)  r8 hr9)) (r3) _ hp
        · rw [if_neg hc10] at hp
          exact p262_j131_w F a0 (r8) ((p257_w F (r1) (p245_w F (h) w  r1 hr2) (0)  r8 hr9)) (r3) _ hp
theorem f263_0 : fetch 263 0 = some (.aload_n 0, 0, 0, 0) := rfl
theorem f263_1 : fetch 263 1 = some (.invokevirtual 436, 254, 0, 0) := rfl
theorem f263_4 : fetch 263 4 = some (.bipush 12, 0, 0, 0) := rfl
theorem f263_6 : fetch 263 6 = some (.if_icmp .eq 16, 22, 0, 0) := rfl
theorem f263_9 : fetch 263 9 = some (.iload_n 1, 0, 0, 0) := rfl
theorem f263_10 : fetch 263 10 = some (.ifCond .eq 39, 49, 0, 0) := rfl
theorem f263_13 : fetch 263 13 = some (.aload_n 0, 0, 0, 0) := rfl
theorem f263_14 : fetch 263 14 = some (.invokevirtual 436, 254, 0, 0) := rfl
theorem f263_17 : fetch 263 17 = some (.bipush 13, 0, 0, 0) := rfl
theorem f263_19 : fetch 263 19 = some (.if_icmp .ne 30, 49, 0, 0) := rfl
theorem f263_22 : fetch 263 22 = some (.aload_n 0, 0, 0, 0) := rfl
theorem f263_23 : fetch 263 23 = some (.dup, 0, 0, 0) := rfl
theorem f263_24 : fetch 263 24 = some (.getfield 430, 12, 68, 0) := rfl
theorem f263_27 : fetch 263 27 = some (.iconst 1, 0, 0, 0) := rfl
theorem f263_28 : fetch 263 28 = some (.isub, 0, 0, 0) := rfl
theorem f263_29 : fetch 263 29 = some (.putfield 430, 12, 68, 0) := rfl
theorem f263_32 : fetch 263 32 = some (.aload_n 0, 0, 0, 0) := rfl
theorem f263_33 : fetch 263 33 = some (.aload_n 0, 0, 0, 0) := rfl
theorem f263_34 : fetch 263 34 = some (.getfield 156, 12, 69, 2) := rfl
theorem f263_37 : fetch 263 37 = some (.aload_n 0, 0, 0, 0) := rfl
theorem f263_38 : fetch 263 38 = some (.getfield 430, 12, 68, 0) := rfl
theorem f263_41 : fetch 263 41 = some (.iaload, 0, 0, 0) := rfl
theorem f263_42 : fetch 263 42 = some (.iconst 0, 0, 0, 0) := rfl
theorem f263_43 : fetch 263 43 = some (.invokevirtual 439, 252, 2, 0) := rfl
theorem f263_46 : fetch 263 46 = some (.goto (-46), 0, 0, 0) := rfl
theorem f263_49 : fetch 263 49 = some (.return_, 0, 0, 0) := rfl
set_option maxRecDepth 100000 in
set_option maxHeartbeats 4000000 in
theorem p263_j22_ok (d : Nat) (F : Nat) (a0 : Int32) (K0 : HS → Option (HS)) (hK0 : ∀ (h : HS) (w : WF h) (r : HS), K0 h = some r → ex (d + 1) 263 (0, [some (.ref (86)), some (.int (a0))], [], h) = some (none, r)) (h : HS) (w : WF h) (r : HS) (hp : p263_j22 F a0 K0 h = some r) : ex (d + 1) 263 (22, [some (.ref (86)), some (.int (a0))], [], h) = some (none, r) := by
  unfold p263_j22 at hp
  refine e_aload_n f263_22 rfl ?_
  refine e_dup f263_23 rfl ?_
  refine e_getI f263_24 (WF.t w 86 (by decide)) (by decide) ?_
  refine e_iconst (v := 1) f263_27 (by decide) ?_
  refine e_isub f263_28 ?_
  refine e_putI f263_29 (WF.t w 86 (by decide)) rfl ?_
  refine e_aload_n f263_32 rfl ?_
  refine e_aload_n f263_33 rfl ?_
  refine e_getR f263_34 (WF.t w 86 (by decide)) rfl (WF.r (q := 135) w 86 69 (by decide)) ?_
  refine e_aload_n f263_37 rfl ?_
  refine e_getI f263_38 (WF.t w 86 (by decide)) (by decide) ?_
  by_cases hg8 : (hI (hsI (h) (86) 68 ((hI (h) (86) 68) - (1))) (86) 68) < (0 : Int32) ∨ 400 ≤ (hI (hsI (h) (86) 68 ((hI (h) (86) 68) - (1))) (86) 68).toNatClampNeg
  · rw [if_pos hg8] at hp; cases hp
  rw [if_neg hg8] at hp
  refine e_iaload f263_41 (Or.inl (WF.t w 135 (by decide))) (WF.n w 135 (by decide)) hg8 ?_
  refine e_iconst (v := 0) f263_42 (by decide) ?_
  obtain ⟨r9, hr10, hp⟩ := bind_some hp
  try dsimp only at hp
  refine e_callV (st := []) (o := 86) (as := [.int (hI (hsI (h) (86) 68 ((hI (h) (86) 68) - (1))) (135) (hI (hsI (h) (86) 68 ((hI (h) (86) 68) - (1))) (86) 68).toNatClampNeg), .int (0)]) f263_43 (by decide) rfl rfl (Nat.le_of_ble_eq_true rfl) (WF.t w 86 (by decide)) (Nat.le_of_ble_eq_true rfl) (p252_ok d (hsI (h) (86) 68 ((hI (h) (86) 68) - (1))) w (hI (hsI (h) (86) 68 ((hI (h) (86) 68) - (1))) (135) (hI (hsI (h) (86) 68 ((hI (h) (86) 68) - (1))) (86) 68).toNatClampNeg) (0) r9 hr10) ?_
  show ex _ 263 (46, [some (.ref (86)), some (.int (a0))], [], r9) = _
  refine e_goto f263_46 ?_
  refine ex_weak (ls := [some (.ref (86)), some (.int (a0))]) (le2_ok ⟨Or.inr rfl, Or.inr rfl, trivial⟩) ?_
  exact hK0 (r9) ((p252_w (hsI (h) (86) 68 ((hI (h) (86) 68) - (1))) w (hI (hsI (h) (86) 68 ((hI (h) (86) 68) - (1))) (135) (hI (hsI (h) (86) 68 ((hI (h) (86) 68) - (1))) (86) 68).toNatClampNeg) (0)  r9 hr10))  _ hp
set_option maxRecDepth 100000 in
set_option maxHeartbeats 4000000 in
theorem p263_j22_w (F : Nat) (a0 : Int32) (K0 : HS → Option (HS)) (hK0 : ∀ (h : HS) (w : WF h) (r : HS), K0 h = some r → WF r) (h : HS) (w : WF h) (r : HS) (hp : p263_j22 F a0 K0 h = some r) : WF r := by
  unfold p263_j22 at hp
  by_cases hg8 : (hI (hsI (h) (86) 68 ((hI (h) (86) 68) - (1))) (86) 68) < (0 : Int32) ∨ 400 ≤ (hI (hsI (h) (86) 68 ((hI (h) (86) 68) - (1))) (86) 68).toNatClampNeg
  · rw [if_pos hg8] at hp; cases hp
  rw [if_neg hg8] at hp
  obtain ⟨r9, hr10, hp⟩ := bind_some hp
  try dsimp only at hp
  exact hK0 (r9) ((p252_w (hsI (h) (86) 68 ((hI (h) (86) 68) - (1))) w (hI (hsI (h) (86) 68 ((hI (h) (86) 68) - (1))) (135) (hI (hsI (h) (86) 68 ((hI (h) (86) 68) - (1))) (86) 68).toNatClampNeg) (0)  r9 hr10))  _ hp
set_option maxRecDepth 100000 in
set_option maxHeartbeats 4000000 in
theorem p263_L0_ok (d : Nat) (F : Nat) (a0 : Int32) : ∀ (n : Nat) (h : HS) (w : WF h) (r : HS), p263_L0 F a0 n h = some r → ex (d + 1) 263 (0, [some (.ref (86)), some (.int (a0))], [], h) = some (none, r) := by
  intro n
  induction n with
  | zero => intro h w r hp; cases hp
  | succ n ih =>
    intro h w r hp
    unfold p263_L0 at hp
    refine e_aload_n f263_0 rfl ?_
    obtain ⟨r1, hr2, hp⟩ := bind_some hp
    try dsimp only at hp
    refine e_callV (st := []) (o := 86) (as := []) f263_1 (by decide) rfl rfl (Nat.le_of_ble_eq_true rfl) (WF.t w 86 (by decide)) (Nat.le_of_ble_eq_true rfl) (p254_ok d (h) w r1 hr2) ?_
    show ex _ 263 (4, [some (.ref (86)), some (.int (a0))], [.int (r1)], h) = _
    refine e_bipush (v := 12) f263_4 (by decide) ?_
    by_cases hc3 : (r1) = ((12) : Int32)
    · rw [if_pos hc3] at hp
      refine e_icmp_eq_t f263_6 hc3 ?_
      refine ex_weak (ls := [some (.ref (86)), some (.int (a0))]) (le2_ok ⟨Or.inr rfl, Or.inr rfl, trivial⟩) ?_
      exact p263_j22_ok d F a0 ((p263_L0 F a0 n)) (ih) (h) (w)  _ hp
    · rw [if_neg hc3] at hp
      refine e_icmp_eq_f f263_6 hc3 ?_
      refine e_iload_n f263_9 rfl ?_
      by_cases hc4 : (a0) = (0 : Int32)
      · rw [if_pos hc4] at hp
        refine e_if_eq_t f263_10 hc4 ?_
        have hp := Option.some.inj hp
        subst hp
        exact e_return f263_49
      · rw [if_neg hc4] at hp
        refine e_if_eq_f f263_10 hc4 ?_
        refine e_aload_n f263_13 rfl ?_
        obtain ⟨r5, hr6, hp⟩ := bind_some hp
        try dsimp only at hp
        refine e_callV (st := []) (o := 86) (as := []) f263_14 (by decide) rfl rfl (Nat.le_of_ble_eq_true rfl) (WF.t w 86 (by decide)) (Nat.le_of_ble_eq_true rfl) (p254_ok d (h) w r5 hr6) ?_
        show ex _ 263 (17, [some (.ref (86)), some (.int (a0))], [.int (r5)], h) = _
        refine e_bipush (v := 13) f263_17 (by decide) ?_
        by_cases hc7 : (r5) = ((13) : Int32)
        · rw [if_pos hc7] at hp
          refine e_icmp_ne_f f263_19 hc7 ?_
          refine ex_weak (ls := [some (.ref (86)), some (.int (a0))]) (le2_ok ⟨Or.inr rfl, Or.inr rfl, trivial⟩) ?_
          exact p263_j22_ok d F a0 ((p263_L0 F a0 n)) (ih) (h) (w)  _ hp
        · rw [if_neg hc7] at hp
          refine e_icmp_ne_t f263_19 hc7 ?_
          have hp := Option.some.inj hp
          subst hp
          exact e_return f263_49
set_option maxRecDepth 100000 in
set_option maxHeartbeats 4000000 in
theorem p263_L0_w (F : Nat) (a0 : Int32) : ∀ (n : Nat) (h : HS) (w : WF h) (r : HS), p263_L0 F a0 n h = some r → WF r := by
  intro n
  induction n with
  | zero => intro h w r hp; cases hp
  | succ n ih =>
    intro h w r hp
    unfold p263_L0 at hp
    obtain ⟨r1, hr2, hp⟩ := bind_some hp
    try dsimp only at hp
    by_cases hc3 : (r1) = ((12) : Int32)
    · rw [if_pos hc3] at hp
      exact p263_j22_w F a0 ((p263_L0 F a0 n)) (ih) (h) (w)  _ hp
    · rw [if_neg hc3] at hp
      by_cases hc4 : (a0) = (0 : Int32)
      · rw [if_pos hc4] at hp
        have hp := Option.some.inj hp
        subst hp
        exact (w)
      · rw [if_neg hc4] at hp
        obtain ⟨r5, hr6, hp⟩ := bind_some hp
        try dsimp only at hp
        by_cases hc7 : (r5) = ((13) : Int32)
        · rw [if_pos hc7] at hp
          exact p263_j22_w F a0 ((p263_L0 F a0 n)) (ih) (h) (w)  _ hp
        · rw [if_neg hc7] at hp
          have hp := Option.some.inj hp
          subst hp
          exact (w)
set_option maxRecDepth 100000 in
set_option maxHeartbeats 4000000 in
theorem p263_ok (d : Nat) (F : Nat) (h : HS) (w : WF h) (a0 : Int32) (r : HS) (hp : p263 F h a0 = some r) : ex (d + 1) 263 (ent 263 [.ref (86), .int (a0)] h) = some (none, r) := by
  rw [show ent 263 [.ref (86), .int (a0)] h = (0, [some (.ref (86)), some (.int (a0))], [], h) from by  rfl]
  refine ex_weak (ls := [some (.ref (86)), some (.int (a0))]) (le2_ok ⟨Or.inr rfl, Or.inr rfl, trivial⟩) ?_
  unfold p263 at hp
  refine ex_weak (ls := [some (.ref (86)), some (.int (a0))]) (le2_ok ⟨Or.inr rfl, Or.inr rfl, trivial⟩) ?_
  exact p263_L0_ok d F a0 F (h) (w)  _ hp
set_option maxRecDepth 100000 in
set_option maxHeartbeats 4000000 in
theorem p263_w (F : Nat) (h : HS) (w : WF h) (a0 : Int32) (r : HS) (hp : p263 F h a0 = some r) : WF r := by
  unfold p263 at hp
  exact p263_L0_w F a0 F (h) (w)  _ hp
theorem f264_0 : fetch 264 0 = some (.aload_n 0, 0, 0, 0) := rfl
theorem f264_1 : fetch 264 1 = some (.invokevirtual 436, 254, 0, 0) := rfl
theorem f264_4 : fetch 264 4 = some (.bipush 14, 0, 0, 0) := rfl
theorem f264_6 : fetch 264 6 = some (.if_icmp .ne 33, 39, 0, 0) := rfl
theorem f264_9 : fetch 264 9 = some (.aload_n 0, 0, 0, 0) := rfl
theorem f264_10 : fetch 264 10 = some (.dup, 0, 0, 0) := rfl
theorem f264_11 : fetch 264 11 = some (.getfield 430, 12, 68, 0) := rfl
theorem f264_14 : fetch 264 14 = some (.iconst 1, 0, 0, 0) := rfl
theorem f264_15 : fetch 264 15 = some (.isub, 0, 0, 0) := rfl
theorem f264_16 : fetch 264 16 = some (.putfield 430, 12, 68, 0) := rfl
theorem f264_19 : fetch 264 19 = some (.aload_n 0, 0, 0, 0) := rfl
theorem f264_20 : fetch 264 20 = some (.dup, 0, 0, 0) := rfl
theorem f264_21 : fetch 264 21 = some (.getfield 433, 12, 56, 0) := rfl
theorem f264_24 : fetch 264 24 = some (.iconst 1, 0, 0, 0) := rfl
theorem f264_25 : fetch 264 25 = some (.isub, 0, 0, 0) := rfl
theorem f264_26 : fetch 264 26 = some (.putfield 433, 12, 56, 0) := rfl
theorem f264_29 : fetch 264 29 = some (.aload_n 0, 0, 0, 0) := rfl
theorem f264_30 : fetch 264 30 = some (.bipush 14, 0, 0, 0) := rfl
theorem f264_32 : fetch 264 32 = some (.iconst 0, 0, 0, 0) := rfl
theorem f264_33 : fetch 264 33 = some (.invokevirtual 439, 252, 2, 0) := rfl
theorem f264_36 : fetch 264 36 = some (.goto (-36), 0, 0, 0) := rfl
theorem f264_39 : fetch 264 39 = some (.aload_n 0, 0, 0, 0) := rfl
theorem f264_40 : fetch 264 40 = some (.invokevirtual 445, 245, 0, 0) := rfl
theorem f264_43 : fetch 264 43 = some (.aload_n 0, 0, 0, 0) := rfl
theorem f264_44 : fetch 264 44 = some (.invokevirtual 463, 248, 0, 0) := rfl
theorem f264_47 : fetch 264 47 = some (.istore_n 1, 0, 0, 0) := rfl
theorem f264_48 : fetch 264 48 = some (.aload_n 0, 0, 0, 0) := rfl
theorem f264_49 : fetch 264 49 = some (.ldc_w 486, 22, 1, 0) := rfl
theorem f264_52 : fetch 264 52 = some (.iload_n 1, 0, 0, 0) := rfl
theorem f264_53 : fetch 264 53 = some (.invokevirtual 470, 249, 2, 0) := rfl
theorem f264_56 : fetch 264 56 = some (.istore_n 2, 0, 0, 0) := rfl
theorem f264_57 : fetch 264 57 = some (.iload_n 2, 0, 0, 0) := rfl
theorem f264_58 : fetch 264 58 = some (.ifCond .ne 14, 72, 0, 0) := rfl
theorem f264_61 : fetch 264 61 = some (.aload_n 0, 0, 0, 0) := rfl
theorem f264_62 : fetch 264 62 = some (.ldc_w 488, 23, 1, 0) := rfl
theorem f264_65 : fetch 264 65 = some (.iload_n 1, 0, 0, 0) := rfl
theorem f264_66 : fetch 264 66 = some (.invokevirtual 470, 249, 2, 0) := rfl
theorem f264_69 : fetch 264 69 = some (.ifCond .eq 38, 107, 0, 0) := rfl
theorem f264_72 : fetch 264 72 = some (.aload_n 0, 0, 0, 0) := rfl
theorem f264_73 : fetch 264 73 = some (.iload_n 2, 0, 0, 0) := rfl
theorem f264_74 : fetch 264 74 = some (.ifCond .ne 7, 81, 0, 0) := rfl
theorem f264_77 : fetch 264 77 = some (.iconst 1, 0, 0, 0) := rfl
theorem f264_78 : fetch 264 78 = some (.goto 4, 82, 0, 0) := rfl
theorem f264_81 : fetch 264 81 = some (.iconst 0, 0, 0, 0) := rfl
theorem f264_82 : fetch 264 82 = some (.invokevirtual 490, 263, 1, 0) := rfl
theorem f264_85 : fetch 264 85 = some (.aload_n 0, 0, 0, 0) := rfl
theorem f264_86 : fetch 264 86 = some (.iload_n 2, 0, 0, 0) := rfl
theorem f264_87 : fetch 264 87 = some (.ifCond .eq 8, 95, 0, 0) := rfl
theorem f264_90 : fetch 264 90 = some (.bipush 12, 0, 0, 0) := rfl
theorem f264_92 : fetch 264 92 = some (.goto 5, 97, 0, 0) := rfl
theorem f264_95 : fetch 264 95 = some (.bipush 13, 0, 0, 0) := rfl
theorem f264_97 : fetch 264 97 = some (.invokevirtual 457, 253, 1, 0) := rfl
theorem f264_100 : fetch 264 100 = some (.aload_n 0, 0, 0, 0) := rfl
theorem f264_101 : fetch 264 101 = some (.iload_n 1, 0, 0, 0) := rfl
theorem f264_102 : fetch 264 102 = some (.putfield 384, 12, 53, 0) := rfl
theorem f264_105 : fetch 264 105 = some (.iconst 0, 0, 0, 0) := rfl
theorem f264_106 : fetch 264 106 = some (.ireturn, 0, 0, 0) := rfl
theorem f264_107 : fetch 264 107 = some (.aload_n 0, 0, 0, 0) := rfl
theorem f264_108 : fetch 264 108 = some (.iconst 1, 0, 0, 0) := rfl
theorem f264_109 : fetch 264 109 = some (.invokevirtual 490, 263, 1, 0) := rfl
theorem f264_112 : fetch 264 112 = some (.aload_n 0, 0, 0, 0) := rfl
theorem f264_113 : fetch 264 113 = some (.invokevirtual 448, 246, 0, 0) := rfl
theorem f264_116 : fetch 264 116 = some (.bipush 93, 0, 0, 0) := rfl
theorem f264_118 : fetch 264 118 = some (.if_icmp .ne 44, 162, 0, 0) := rfl
theorem f264_121 : fetch 264 121 = some (.aload_n 0, 0, 0, 0) := rfl
theorem f264_122 : fetch 264 122 = some (.invokevirtual 436, 254, 0, 0) := rfl
theorem f264_125 : fetch 264 125 = some (.bipush 16, 0, 0, 0) := rfl
theorem f264_127 : fetch 264 127 = some (.if_icmp .ne 35, 162, 0, 0) := rfl
theorem f264_130 : fetch 264 130 = some (.aload_n 0, 0, 0, 0) := rfl
theorem f264_131 : fetch 264 131 = some (.dup, 0, 0, 0) := rfl
theorem f264_132 : fetch 264 132 = some (.getfield 430, 12, 68, 0) := rfl
theorem f264_135 : fetch 264 135 = some (.iconst 1, 0, 0, 0) := rfl
theorem f264_136 : fetch 264 136 = some (.isub, 0, 0, 0) := rfl
theorem f264_137 : fetch 264 137 = some (.putfield 430, 12, 68, 0) := rfl
theorem f264_140 : fetch 264 140 = some (.aload_n 0, 0, 0, 0) := rfl
theorem f264_141 : fetch 264 141 = some (.dup, 0, 0, 0) := rfl
theorem f264_142 : fetch 264 142 = some (.getfield 433, 12, 56, 0) := rfl
theorem f264_145 : fetch 264 145 = some (.iconst 1, 0, 0, 0) := rfl
theorem f264_146 : fetch 264 146 = some (.isub, 0, 0, 0) := rfl
theorem f264_147 : fetch 264 147 = some (.putfield 433, 12, 56, 0) := rfl
theorem f264_150 : fetch 264 150 = some (.aload_n 0, 0, 0, 0) := rfl
theorem f264_151 : fetch 264 151 = some (.dup, 0, 0, 0) := rfl
theorem f264_152 : fetch 264 152 = some (.getfield 384, 12, 53, 0) := rfl
theorem f264_155 : fetch 264 155 = some (.iconst 1, 0, 0, 0) := rfl
theorem f264_156 : fetch 264 156 = some (.iadd, 0, 0, 0) := rfl
theorem f264_157 : fetch 264 157 = some (.putfield 384, 12, 53, 0) := rfl
theorem f264_160 : fetch 264 160 = some (.iconst 3, 0, 0, 0) := rfl
theorem f264_161 : fetch 264 161 = some (.ireturn, 0, 0, 0) := rfl
theorem f264_162 : fetch 264 162 = some (.aload_n 0, 0, 0, 0) := rfl
theorem f264_163 : fetch 264 163 = some (.getfield 430, 12, 68, 0) := rfl
theorem f264_166 : fetch 264 166 = some (.ifCond .gt 23, 189, 0, 0) := rfl
theorem f264_169 : fetch 264 169 = some (.aload_n 0, 0, 0, 0) := rfl
theorem f264_170 : fetch 264 170 = some (.getfield 384, 12, 53, 0) := rfl
theorem f264_173 : fetch 264 173 = some (.aload_n 0, 0, 0, 0) := rfl
theorem f264_174 : fetch 264 174 = some (.getfield 374, 12, 52, 0) := rfl
theorem f264_177 : fetch 264 177 = some (.if_icmp .ge 21, 198, 0, 0) := rfl
theorem f264_180 : fetch 264 180 = some (.aload_n 0, 0, 0, 0) := rfl
theorem f264_181 : fetch 264 181 = some (.invokevirtual 448, 246, 0, 0) := rfl
theorem f264_184 : fetch 264 184 = some (.bipush 59, 0, 0, 0) := rfl
theorem f264_186 : fetch 264 186 = some (.if_icmp .eq 12, 198, 0, 0) := rfl
theorem f264_189 : fetch 264 189 = some (.aload_n 0, 0, 0, 0) := rfl
theorem f264_190 : fetch 264 190 = some (.iconst 0, 0, 0, 0) := rfl
theorem f264_191 : fetch 264 191 = some (.aload_n 0, 0, 0, 0) := rfl
theorem f264_192 : fetch 264 192 = some (.getfield 384, 12, 53, 0) := rfl
theorem f264_195 : fetch 264 195 = some (.invokevirtual 421, 244, 2, 0) := rfl
theorem f264_198 : fetch 264 198 = some (.iconst 4, 0, 0, 0) := rfl
theorem f264_199 : fetch 264 199 = some (.ireturn, 0, 0, 0) := rfl
set_option maxRecDepth 100000 in
set_option maxHeartbeats 4000000 in
theorem p264_j189_ok (d : Nat) (F : Nat) (h : HS) (w : WF h) (r : Int32 × HS) (hp : p264_j189 F h = some r) : ex (d + 2) 264 (189, [some (.ref (86)), none, none], [], h) = some (some (.int (r.1)), r.2) := by
  unfold p264_j189 at hp
  refine e_aload_n f264_189 rfl ?_
  refine e_iconst (v := 0) f264_190 (by decide) ?_
  refine e_aload_n f264_191 rfl ?_
  refine e_getI f264_192 (WF.t w 86 (by decide)) (by decide) ?_
  obtain ⟨r36, hr37, hp⟩ := bind_some hp
  try dsimp only at hp
  refine e_callV (st := []) (o := 86) (as := [.int (0), .int (hI (h) (86) 53)]) f264_195 (by decide) rfl rfl (Nat.le_of_ble_eq_true rfl) (WF.t w 86 (by decide)) (Nat.le_of_ble_eq_true rfl) (p244_ok (d + 1) (h) w (0) (hI (h) (86) 53) r36 hr37) ?_
  show ex _ 264 (198, [some (.ref (86)), none, none], [], r36) = _
  refine e_iconst (v := 4) f264_198 (by decide) ?_
  have hp := Option.some.inj hp
  subst hp
  exact e_ireturn f264_199 (Or.inl rfl)
set_option maxRecDepth 100000 in
set_option maxHeartbeats 4000000 in
theorem p264_j189_w (F : Nat) (h : HS) (w : WF h) (r : Int32 × HS) (hp : p264_j189 F h = some r) : WF r.2 := by
  unfold p264_j189 at hp
  obtain ⟨r36, hr37, hp⟩ := bind_some hp
  try dsimp only at hp
  have hp := Option.some.inj hp
  subst hp
  exact ((p244_w (h) w (0) (hI (h) (86) 53)  r36 hr37))
set_option maxRecDepth 100000 in
set_option maxHeartbeats 4000000 in
theorem p264_j97_ok (d : Nat) (F : Nat) (h : HS) (w : WF h) (v1 : Int32) (s0 : Int32) (r : Int32 × HS) (hp : p264_j97 F h v1 s0 = some r) : ex (d + 2) 264 (97, [some (.ref (86)), some (.int (v1)), none], [.int (s0), .ref (86)], h) = some (some (.int (r.1)), r.2) := by
  unfold p264_j97 at hp
  obtain ⟨r41, hr42, hp⟩ := bind_some hp
  try dsimp only at hp
  refine e_callV (st := []) (o := 86) (as := [.int (s0)]) f264_97 (by decide) rfl rfl (Nat.le_of_ble_eq_true rfl) (WF.t w 86 (by decide)) (Nat.le_of_ble_eq_true rfl) (p253_ok (d + 1) (h) w (s0) r41 hr42) ?_
  show ex _ 264 (100, [some (.ref (86)), some (.int (v1)), none], [], r41) = _
  refine e_aload_n f264_100 rfl ?_
  refine e_iload_n f264_101 rfl ?_
  refine e_putI f264_102 (WF.t (p253_w (h) w (s0)  r41 hr42) 86 (by decide)) rfl ?_
  refine e_iconst (v := 0) f264_105 (by decide) ?_
  have hp := Option.some.inj hp
  subst hp
  exact e_ireturn f264_106 (Or.inl rfl)
set_option maxRecDepth 100000 in
set_option maxHeartbeats 4000000 in
theorem p264_j97_w (F : Nat) (h : HS) (w : WF h) (v1 : Int32) (s0 : Int32) (r : Int32 × HS) (hp : p264_j97 F h v1 s0 = some r) : WF r.2 := by
  unfold p264_j97 at hp
  obtain ⟨r41, hr42, hp⟩ := bind_some hp
  try dsimp only at hp
  have hp := Option.some.inj hp
  subst hp
  exact ((p253_w (h) w (s0)  r41 hr42))
set_option maxRecDepth 100000 in
set_option maxHeartbeats 4000000 in
theorem p264_j162_ok (d : Nat) (F : Nat) (h : HS) (w : WF h) (r : Int32 × HS) (hp : p264_j162 F h = some r) : ex (d + 2) 264 (162, [some (.ref (86)), none, none], [], h) = some (some (.int (r.1)), r.2) := by
  unfold p264_j162 at hp
  refine e_aload_n f264_162 rfl ?_
  refine e_getI f264_163 (WF.t w 86 (by decide)) (by decide) ?_
  by_cases hc30 : (0 : Int32) < (hI (h) (86) 68)
  · rw [if_pos hc30] at hp
    refine e_if_gt_t f264_166 hc30 ?_
    refine ex_weak (ls := [some (.ref (86)), none, none]) (le2_ok ⟨Or.inr rfl, Or.inl rfl, Or.inl rfl, trivial⟩) ?_
    exact p264_j189_ok d F (h) (w)  _ hp
  · rw [if_neg hc30] at hp
    refine e_if_gt_f f264_166 hc30 ?_
    refine e_aload_n f264_169 rfl ?_
    refine e_getI f264_170 (WF.t w 86 (by decide)) (by decide) ?_
    refine e_aload_n f264_173 rfl ?_
    refine e_getI f264_174 (WF.t w 86 (by decide)) (by decide) ?_
    by_cases hc31 : (hI (h) (86) 53) < ((hI (h) (86) 52) : Int32)
    · rw [if_pos hc31] at hp
      refine e_icmp_ge_f f264_177 hc31 ?_
      refine e_aload_n f264_180 rfl ?_
      obtain ⟨r32, hr33, hp⟩ := bind_some hp
      try dsimp only at hp
      refine e_callV (st := []) (o := 86) (as := []) f264_181 (by decide) rfl rfl (Nat.le_of_ble_eq_true rfl) (WF.t w 86 (by decide)) (Nat.le_of_ble_eq_true rfl) (p246_ok (d + 1) (h) w r32 hr33) ?_
      show ex _ 264 (184, [some (.ref (86)), none, none], [.int (r32)], h) = _
      refine e_bipush (v := 59) f264_184 (by decide) ?_
      by_cases hc34 : (r32) = ((59) : Int32)
      · rw [if_pos hc34] at hp
        refine e_icmp_eq_t f264_186 hc34 ?_
        refine e_iconst (v := 4) f264_198 (by decide) ?_
        have hp := Option.some.inj hp
        subst hp
        exact e_ireturn f264_199 (Or.inl rfl)
      · rw [if_neg hc34] at hp
        refine e_icmp_eq_f f264_186 hc34 ?_
        refine ex_weak (ls := [some (.ref (86)), none, none]) (le2_ok ⟨Or.inr rfl, Or.inl rfl, Or.inl rfl, trivial⟩) ?_
        exact p264_j189_ok d F (h) (w)  _ hp
    · rw [if_neg hc31] at hp
      refine e_icmp_ge_t f264_177 hc31 ?_
      refine e_iconst (v := 4) f264_198 (by decide) ?_
      have hp := Option.some.inj hp
      subst hp
      exact e_ireturn f264_199 (Or.inl rfl)
set_option maxRecDepth 100000 in
set_option maxHeartbeats 4000000 in
theorem p264_j162_w (F : Nat) (h : HS) (w : WF h) (r : Int32 × HS) (hp : p264_j162 F h = some r) : WF r.2 := by
  unfold p264_j162 at hp
  by_cases hc30 : (0 : Int32) < (hI (h) (86) 68)
  · rw [if_pos hc30] at hp
    exact p264_j189_w F (h) (w)  _ hp
  · rw [if_neg hc30] at hp
    by_cases hc31 : (hI (h) (86) 53) < ((hI (h) (86) 52) : Int32)
    · rw [if_pos hc31] at hp
      obtain ⟨r32, hr33, hp⟩ := bind_some hp
      try dsimp only at hp
      by_cases hc34 : (r32) = ((59) : Int32)
      · rw [if_pos hc34] at hp
        have hp := Option.some.inj hp
        subst hp
        exact (w)
      · rw [if_neg hc34] at hp
        exact p264_j189_w F (h) (w)  _ hp
    · rw [if_neg hc31] at hp
      have hp := Option.some.inj hp
      subst hp
      exact (w)
set_option maxRecDepth 100000 in
set_option maxHeartbeats 4000000 in
theorem p264_j82_ok (d : Nat) (F : Nat) (h : HS) (w : WF h) (v1 : Int32) (v2 : Int32) (s0 : Int32) (r : Int32 × HS) (hp : p264_j82 F h v1 v2 s0 = some r) : ex (d + 2) 264 (82, [some (.ref (86)), some (.int (v1)), some (.int (v2))], [.int (s0), .ref (86)], h) = some (some (.int (r.1)), r.2) := by
  unfold p264_j82 at hp
  obtain ⟨r38, hr39, hp⟩ := bind_some hp
  try dsimp only at hp
  refine e_callV (st := []) (o := 86) (as := [.int (s0)]) f264_82 (by decide) rfl rfl (Nat.le_of_ble_eq_true rfl) (WF.t w 86 (by decide)) (Nat.le_of_ble_eq_true rfl) (p263_ok d F (h) w (s0) r38 hr39) ?_
  show ex _ 264 (85, [some (.ref (86)), some (.int (v1)), some (.int (v2))], [], r38) = _
  refine e_aload_n f264_85 rfl ?_
  refine e_iload_n f264_86 rfl ?_
  by_cases hc40 : (v2) = (0 : Int32)
  · rw [if_pos hc40] at hp
    refine e_if_eq_t f264_87 hc40 ?_
    refine e_bipush (v := 13) f264_95 (by decide) ?_
    refine ex_weak (ls := [some (.ref (86)), some (.int (v1)), none]) (le2_ok ⟨Or.inr rfl, Or.inr rfl, Or.inl rfl, trivial⟩) ?_
    exact p264_j97_ok d F (r38) ((p263_w F (h) w (s0)  r38 hr39)) (v1) (13) _ hp
  · rw [if_neg hc40] at hp
    refine e_if_eq_f f264_87 hc40 ?_
    refine e_bipush (v := 12) f264_90 (by decide) ?_
    refine e_goto f264_92 ?_
    refine ex_weak (ls := [some (.ref (86)), some (.int (v1)), none]) (le2_ok ⟨Or.inr rfl, Or.inr rfl, Or.inl rfl, trivial⟩) ?_
    exact p264_j97_ok d F (r38) ((p263_w F (h) w (s0)  r38 hr39)) (v1) (12) _ hp
set_option maxRecDepth 100000 in
set_option maxHeartbeats 4000000 in
theorem p264_j82_w (F : Nat) (h : HS) (w : WF h) (v1 : Int32) (v2 : Int32) (s0 : Int32) (r : Int32 × HS) (hp : p264_j82 F h v1 v2 s0 = some r) : WF r.2 := by
  unfold p264_j82 at hp
  obtain ⟨r38, hr39, hp⟩ := bind_some hp
  try dsimp only at hp
  by_cases hc40 : (v2) = (0 : Int32)
  · rw [if_pos hc40] at hp
    exact p264_j97_w F (r38) ((p263_w F (h) w (s0)  r38 hr39)) (v1) (13) _ hp
  · rw [if_neg hc40] at hp
    exact p264_j97_w F (r38) ((p263_w F (h) w (s0)  r38 hr39)) (v1) (12) _ hp
set_option maxRecDepth 100000 in
set_option maxHeartbeats 4000000 in
theorem p264_j72_ok (d : Nat) (F : Nat) (h : HS) (w : WF h) (v1 : Int32) (v2 : Int32) (r : Int32 × HS) (hp : p264_j72 F h v1 v2 = some r) : ex (d + 2) 264 (72, [some (.ref (86)), some (.int (v1)), some (.int (v2))], [], h) = some (some (.int (r.1)), r.2) := by
  unfold p264_j72 at hp
  refine e_aload_n f264_72 rfl ?_
  refine e_iload_n f264_73 rfl ?_
  by_cases hc35 : (v2) = (0 : Int32)
  · rw [if_pos hc35] at hp
    refine e_if_ne_f f264_74 hc35 ?_
    refine e_iconst (v := 1) f264_77 (by decide) ?_
    refine e_goto f264_78 ?_
    refine ex_weak (ls := [some (.ref (86)), some (.int (v1)), some (.int (v2))]) (le2_ok ⟨Or.inr rfl, Or.inr rfl, Or.inr rfl, trivial⟩) ?_
    exact p264_j82_ok d F (h) (w) (v1) (v2) (1) _ hp
  · rw [if_neg hc35] at hp
    refine e_if_ne_t f264_74 hc35 ?_
    refine e_iconst (v := 0) f264_81 (by decide) ?_
    refine ex_weak (ls := [some (.ref (86)), some (.int (v1)), some (.int (v2))]) (le2_ok ⟨Or.inr rfl, Or.inr rfl, Or.inr rfl, trivial⟩) ?_
    exact p264_j82_ok d F (h) (w) (v1) (v2) (0) _ hp
set_option maxRecDepth 100000 in
set_option maxHeartbeats 4000000 in
theorem p264_j72_w (F : Nat) (h : HS) (w : WF h) (v1 : Int32) (v2 : Int32) (r : Int32 × HS) (hp : p264_j72 F h v1 v2 = some r) : WF r.2 := by
  unfold p264_j72 at hp
  by_cases hc35 : (v2) = (0 : Int32)
  · rw [if_pos hc35] at hp
    exact p264_j82_w F (h) (w) (v1) (v2) (1) _ hp
  · rw [if_neg hc35] at hp
    exact p264_j82_w F (h) (w) (v1) (v2) (0) _ hp
set_option maxRecDepth 100000 in
set_option maxHeartbeats 4000000 in
theorem p264_L0_ok (d : Nat) (F : Nat) : ∀ (n : Nat) (h : HS) (w : WF h) (r : Int32 × HS), p264_L0 F n h = some r → ex (d + 2) 264 (0, [some (.ref (86)), none, none], [], h) = some (some (.int (r.1)), r.2) := by
  intro n
  induction n with
  | zero => intro h w r hp; cases hp
  | succ n ih =>
    intro h w r hp
    unfold p264_L0 at hp
    refine e_aload_n f264_0 rfl ?_
    obtain ⟨r1, hr2, hp⟩ := bind_some hp
    try dsimp only at hp
    refine e_callV (st := []) (o := 86) (as := []) f264_1 (by decide) rfl rfl (Nat.le_of_ble_eq_true rfl) (WF.t w 86 (by decide)) (Nat.le_of_ble_eq_true rfl) (p254_ok (d + 1) (h) w r1 hr2) ?_
    show ex _ 264 (4, [some (.ref (86)), none, none], [.int (r1)], h) = _
    refine e_bipush (v := 14) f264_4 (by decide) ?_
    by_cases hc3 : (r1) = ((14) : Int32)
    · rw [if_pos hc3] at hp
      refine e_icmp_ne_f f264_6 hc3 ?_
      refine e_aload_n f264_9 rfl ?_
      refine e_dup f264_10 rfl ?_
      refine e_getI f264_11 (WF.t w 86 (by decide)) (by decide) ?_
      refine e_iconst (v := 1) f264_14 (by decide) ?_
      refine e_isub f264_15 ?_
      refine e_putI f264_16 (WF.t w 86 (by decide)) rfl ?_
      refine e_aload_n f264_19 rfl ?_
      refine e_dup f264_20 rfl ?_
      refine e_getI f264_21 (WF.t w 86 (by decide)) (by decide) ?_
      refine e_iconst (v := 1) f264_24 (by decide) ?_
      refine e_isub f264_25 ?_
      refine e_putI f264_26 (WF.t w 86 (by decide)) rfl ?_
      obtain ⟨h4, e5, hp⟩ := bind_some hp
      try dsimp only at hp
      have e5 := Option.some.inj e5
      have w6 : WF h4 := e5 ▸ w
      rw [e5]
      refine e_aload_n f264_29 rfl ?_
      refine e_bipush (v := 14) f264_30 (by decide) ?_
      refine e_iconst (v := 0) f264_32 (by decide) ?_
      obtain ⟨r7, hr8, hp⟩ := bind_some hp
      try dsimp only at hp
      refine e_callV (st := []) (o := 86) (as := [.int (14), .int (0)]) f264_33 (by decide) rfl rfl (Nat.le_of_ble_eq_true rfl) (WF.t w6 86 (by decide)) (Nat.le_of_ble_eq_true rfl) (p252_ok (d + 1) (h4) w6 (14) (0) r7 hr8) ?_
      show ex _ 264 (36, [some (.ref (86)), none, none], [], r7) = _
      refine e_goto f264_36 ?_
      refine ex_weak (ls := [some (.ref (86)), none, none]) (le2_ok ⟨Or.inr rfl, Or.inl rfl, Or.inl rfl, trivial⟩) ?_
      exact ih (r7) ((p252_w (h4) w6 (14) (0)  r7 hr8))  _ hp
    · rw [if_neg hc3] at hp
      refine e_icmp_ne_t f264_6 hc3 ?_
      refine e_aload_n f264_39 rfl ?_
      obtain ⟨r9, hr10, hp⟩ := bind_some hp
      try dsimp only at hp
      refine e_callV (st := []) (o := 86) (as := []) f264_40 (by decide) rfl rfl (Nat.le_of_ble_eq_true rfl) (WF.t w 86 (by decide)) (Nat.le_of_ble_eq_true rfl) (p245_ok (d + 1) F (h) w r9 hr10) ?_
      show ex _ 264 (43, [some (.ref (86)), none, none], [], r9) = _
      refine e_aload_n f264_43 rfl ?_
      obtain ⟨r11, hr12, hp⟩ := bind_some hp
      try dsimp only at hp
      refine e_callV (st := []) (o := 86) (as := []) f264_44 (by decide) rfl rfl (Nat.le_of_ble_eq_true rfl) (WF.t (p245_w F (h) w  r9 hr10) 86 (by decide)) (Nat.le_of_ble_eq_true rfl) (p248_ok (d + 1) F (r9) (p245_w F (h) w  r9 hr10) r11 hr12) ?_
      show ex _ 264 (47, [some (.ref (86)), none, none], [.int (r11)], r9) = _
      refine e_istore_n (ls2 := [some (.ref (86)), some (.int (r11)), none]) f264_47 (Nat.le_of_ble_eq_true rfl) rfl ?_
      refine e_aload_n f264_48 rfl ?_
      refine e_ldcwS f264_49 rfl ?_
      refine e_iload_n f264_52 rfl ?_
      obtain ⟨r13, hr14, hp⟩ := bind_some hp
      try dsimp only at hp
      refine e_callV (st := []) (o := 86) (as := [.ref (22), .int (r11)]) f264_53 (by decide) rfl rfl (Nat.le_of_ble_eq_true rfl) (WF.t (p245_w F (h) w  r9 hr10) 86 (by decide)) (Nat.le_of_ble_eq_true rfl) (p249_ok (d + 1) F (r9) (p245_w F (h) w  r9 hr10) (some (22)) (r11) r13 hr14) ?_
      show ex _ 264 (56, [some (.ref (86)), some (.int (r11)), none], [.int (r13)], r9) = _
      refine e_istore_n (ls2 := [some (.ref (86)), some (.int (r11)), some (.int (r13))]) f264_56 (Nat.le_of_ble_eq_true rfl) rfl ?_
      refine e_iload_n f264_57 rfl ?_
      by_cases hc15 : (r13) = (0 : Int32)
      · rw [if_pos hc15] at hp
        refine e_if_ne_f f264_58 hc15 ?_
        refine e_aload_n f264_61 rfl ?_
        refine e_ldcwS f264_62 rfl ?_
        refine e_iload_n f264_65 rfl ?_
        obtain ⟨r16, hr17, hp⟩ := bind_some hp
        try dsimp only at hp
        refine e_callV (st := []) (o := 86) (as := [.ref (23), .int (r11)]) f264_66 (by decide) rfl rfl (Nat.le_of_ble_eq_true rfl) (WF.t (p245_w F (h) w  r9 hr10) 86 (by decide)) (Nat.le_of_ble_eq_true rfl) (p249_ok (d + 1) F (r9) (p245_w F (h) w  r9 hr10) (some (23)) (r11) r16 hr17) ?_
        show ex _ 264 (69, [some (.ref (86)), some (.int (r11)), some (.int (r13))], [.int (r16)], r9) = _
        by_cases hc18 : (r16) = (0 : Int32)
        · rw [if_pos hc18] at hp
          refine e_if_eq_t f264_69 hc18 ?_
          refine e_aload_n f264_107 rfl ?_
          refine e_iconst (v := 1) f264_108 (by decide) ?_
          obtain ⟨r19, hr20, hp⟩ := bind_some hp
          try dsimp only at hp
          refine e_callV (st := []) (o := 86) (as := [.int (1)]) f264_109 (by decide) rfl rfl (Nat.le_of_ble_eq_true rfl) (WF.t (p245_w F (h) w  r9 hr10) 86 (by decide)) (Nat.le_of_ble_eq_true rfl) (p263_ok d F (r9) (p245_w F (h) w  r9 hr10) (1) r19 hr20) ?_
          show ex _ 264 (112, [some (.ref (86)), some (.int (r11)), some (.int (r13))], [], r19) = _
          refine e_aload_n f264_112 rfl ?_
          obtain ⟨r21, hr22, hp⟩ := bind_some hp
          try dsimp only at hp
          refine e_callV (st := []) (o := 86) (as := []) f264_113 (by decide) rfl rfl (Nat.le_of_ble_eq_true rfl) (WF.t (p263_w F (r9) (p245_w F (h) w  r9 hr10) (1)  r19 hr20) 86 (by decide)) (Nat.le_of_ble_eq_true rfl) (p246_ok (d + 1) (r19) (p263_w F (r9) (p245_w F (h) w  r9 hr10) (1)  r19 hr20) r21 hr22) ?_
          show ex _ 264 (116, [some (.ref (86)), some (.int (r11)), some (.int (r13))], [.int (r21)], r19) = _
          refine e_bipush (v := 93) f264_116 (by decide) ?_
          by_cases hc23 : (r21) = ((93) : Int32)
          · rw [if_pos hc23] at hp
            refine e_icmp_ne_f f264_118 hc23 ?_
            refine e_aload_n f264_121 rfl ?_
            obtain ⟨r24, hr25, hp⟩ := bind_some hp
            try dsimp only at hp
            refine e_callV (st := []) (o := 86) (as := []) f264_122 (by decide) rfl rfl (Nat.le_of_ble_eq_true rfl) (WF.t (p263_w F (r9) (p245_w F (h) w  r9 hr10) (1)  r19 hr20) 86 (by decide)) (Nat.le_of_ble_eq_true rfl) (p254_ok (d + 1) (r19) (p263_w F (r9) (p245_w F (h) w  r9 hr10) (1)  r19 hr20) r24 hr25) ?_
            show ex _ 264 (125, [some (.ref (86)), some (.int (r11)), some (.int (r13))], [.int (r24)], r19) = _
            refine e_bipush (v := 16) f264_125 (by decide) ?_
            by_cases hc26 : (r24) = ((16) : Int32)
            · rw [if_pos hc26] at hp
              refine e_icmp_ne_f f264_127 hc26 ?_
              refine e_aload_n f264_130 rfl ?_
              refine e_dup f264_131 rfl ?_
              refine e_getI f264_132 (WF.t (p263_w F (r9) (p245_w F (h) w  r9 hr10) (1)  r19 hr20) 86 (by decide)) (by decide) ?_
              refine e_iconst (v := 1) f264_135 (by decide) ?_
              refine e_isub f264_136 ?_
              refine e_putI f264_137 (WF.t (p263_w F (r9) (p245_w F (h) w  r9 hr10) (1)  r19 hr20) 86 (by decide)) rfl ?_
              refine e_aload_n f264_140 rfl ?_
              refine e_dup f264_141 rfl ?_
              refine e_getI f264_142 (WF.t (p263_w F (r9) (p245_w F (h) w  r9 hr10) (1)  r19 hr20) 86 (by decide)) (by decide) ?_
              refine e_iconst (v := 1) f264_145 (by decide) ?_
              refine e_isub f264_146 ?_
              refine e_putI f264_147 (WF.t (p263_w F (r9) (p245_w F (h) w  r9 hr10) (1)  r19 hr20) 86 (by decide)) rfl ?_
              obtain ⟨h27, e28, hp⟩ := bind_some hp
              try dsimp only at hp
              have e28 := Option.some.inj e28
              have w29 : WF h27 := e28 ▸ (p263_w F (r9) (p245_w F (h) w  r9 hr10) (1)  r19 hr20)
              rw [e28]
              refine e_aload_n f264_150 rfl ?_
              refine e_dup f264_151 rfl ?_
              refine e_getI f264_152 (WF.t w29 86 (by decide)) (by decide) ?_
              refine e_iconst (v := 1) f264_155 (by decide) ?_
              refine e_iadd f264_156 ?_
              refine e_putI f264_157 (WF.t w29 86 (by decide)) rfl ?_
              refine e_iconst (v := 3) f264_160 (by decide) ?_
              have hp := Option.some.inj hp
              subst hp
              exact e_ireturn f264_161 (Or.inl rfl)
            · rw [if_neg hc26] at hp
              refine e_icmp_ne_t f264_127 hc26 ?_
              refine ex_weak (ls := [some (.ref (86)), none, none]) (le2_ok ⟨Or.inr rfl, Or.inl rfl, Or.inl rfl, trivial⟩) ?_
              exact p264_j162_ok d F (r19) ((p263_w F (r9) (p245_w F (h) w  r9 hr10) (1)  r19 hr20))  _ hp
          · rw [if_neg hc23] at hp
            refine e_icmp_ne_t f264_118 hc23 ?_
            refine ex_weak (ls := [some (.ref (86)), none, none]) (le2_ok ⟨Or.inr rfl, Or.inl rfl, Or.inl rfl, trivial⟩) ?_
            exact p264_j162_ok d F (r19) ((p263_w F (r9) (p245_w F (h) w  r9 hr10) (1)  r19 hr20))  _ hp
        · rw [if_neg hc18] at hp
          refine e_if_eq_f f264_69 hc18 ?_
          refine ex_weak (ls := [some (.ref (86)), some (.int (r11)), some (.int (r13))]) (le2_ok ⟨Or.inr rfl, Or.inr rfl, Or.inr rfl, trivial⟩) ?_
          exact p264_j72_ok d F (r9) ((p245_w F (h) w  r9 hr10)) (r11) (r13) _ hp
      · rw [if_neg hc15] at hp
        refine e_if_ne_t f264_58 hc15 ?_
        refine ex_weak (ls := [some (.ref (86)), some (.int (r11)), some (.int (r13))]) (le2_ok ⟨Or.inr rfl, Or.inr rfl, Or.inr rfl, trivial⟩) ?_
        exact p264_j72_ok d F (r9) ((p245_w F (h) w  r9 hr10)) (r11) (r13) _ hp
set_option maxRecDepth 100000 in
set_option maxHeartbeats 4000000 in
theorem p264_L0_w (F : Nat) : ∀ (n : Nat) (h : HS) (w : WF h) (r : Int32 × HS), p264_L0 F n h = some r → WF r.2 := by
  intro n
  induction n with
  | zero => intro h w r hp; cases hp
  | succ n ih =>
    intro h w r hp
    unfold p264_L0 at hp
    obtain ⟨r1, hr2, hp⟩ := bind_some hp
    try dsimp only at hp
    by_cases hc3 : (r1) = ((14) : Int32)
    · rw [if_pos hc3] at hp
      obtain ⟨h4, e5, hp⟩ := bind_some hp
      try dsimp only at hp
      have e5 := Option.some.inj e5
      have w6 : WF h4 := e5 ▸ w
      obtain ⟨r7, hr8, hp⟩ := bind_some hp
      try dsimp only at hp
      exact ih (r7) ((p252_w (h4) w6 (14) (0)  r7 hr8))  _ hp
    · rw [if_neg hc3] at hp
      obtain ⟨r9, hr10, hp⟩ := bind_some hp
      try dsimp only at hp
      obtain ⟨r11, hr12, hp⟩ := bind_some hp
      try dsimp only at hp
      obtain ⟨r13, hr14, hp⟩ := bind_some hp
      try dsimp only at hp
      by_cases hc15 : (r13) = (0 : Int32)
      · rw [if_pos hc15] at hp
        obtain ⟨r16, hr17, hp⟩ := bind_some hp
        try dsimp only at hp
        by_cases hc18 : (r16) = (0 : Int32)
        · rw [if_pos hc18] at hp
          obtain ⟨r19, hr20, hp⟩ := bind_some hp
          try dsimp only at hp
          obtain ⟨r21, hr22, hp⟩ := bind_some hp
          try dsimp only at hp
          by_cases hc23 : (r21) = ((93) : Int32)
          · rw [if_pos hc23] at hp
            obtain ⟨r24, hr25, hp⟩ := bind_some hp
            try dsimp only at hp
            by_cases hc26 : (r24) = ((16) : Int32)
            · rw [if_pos hc26] at hp
              obtain ⟨h27, e28, hp⟩ := bind_some hp
              try dsimp only at hp
              have e28 := Option.some.inj e28
              have w29 : WF h27 := e28 ▸ (p263_w F (r9) (p245_w F (h) w  r9 hr10) (1)  r19 hr20)
              have hp := Option.some.inj hp
              subst hp
              exact (w29)
            · rw [if_neg hc26] at hp
              exact p264_j162_w F (r19) ((p263_w F (r9) (p245_w F (h) w  r9 hr10) (1)  r19 hr20))  _ hp
          · rw [if_neg hc23] at hp
            exact p264_j162_w F (r19) ((p263_w F (r9) (p245_w F (h) w  r9 hr10) (1)  r19 hr20))  _ hp
        · rw [if_neg hc18] at hp
          exact p264_j72_w F (r9) ((p245_w F (h) w  r9 hr10)) (r11) (r13) _ hp
      · rw [if_neg hc15] at hp
        exact p264_j72_w F (r9) ((p245_w F (h) w  r9 hr10)) (r11) (r13) _ hp
set_option maxRecDepth 100000 in
set_option maxHeartbeats 4000000 in
theorem p264_ok (d : Nat) (F : Nat) (h : HS) (w : WF h) (r : Int32 × HS) (hp : p264 F h = some r) : ex (d + 2) 264 (ent 264 [.ref (86)] h) = some (some (.int (r.1)), r.2) := by
  rw [show ent 264 [.ref (86)] h = (0, [some (.ref (86)), none, none], [], h) from by  rfl]
  refine ex_weak (ls := [some (.ref (86)), none, none]) (le2_ok ⟨Or.inr rfl, Or.inr rfl, Or.inr rfl, trivial⟩) ?_
  unfold p264 at hp
  refine ex_weak (ls := [some (.ref (86)), none, none]) (le2_ok ⟨Or.inr rfl, Or.inl rfl, Or.inl rfl, trivial⟩) ?_
  exact p264_L0_ok d F F (h) (w)  _ hp
set_option maxRecDepth 100000 in
set_option maxHeartbeats 4000000 in
theorem p264_w (F : Nat) (h : HS) (w : WF h) (r : Int32 × HS) (hp : p264 F h = some r) : WF r.2 := by
  unfold p264 at hp
  exact p264_L0_w F F (h) (w)  _ hp
theorem f265_0 : fetch 265 0 = some (.aload_n 0, 0, 0, 0) := rfl
theorem f265_1 : fetch 265 1 = some (.invokevirtual 445, 245, 0, 0) := rfl
theorem f265_4 : fetch 265 4 = some (.aload_n 0, 0, 0, 0) := rfl
theorem f265_5 : fetch 265 5 = some (.invokevirtual 463, 248, 0, 0) := rfl
theorem f265_8 : fetch 265 8 = some (.istore_n 2, 0, 0, 0) := rfl
theorem f265_9 : fetch 265 9 = some (.aload_n 0, 0, 0, 0) := rfl
theorem f265_10 : fetch 265 10 = some (.ldc_w 493, 3, 1, 0) := rfl
theorem f265_13 : fetch 265 13 = some (.iload_n 2, 0, 0, 0) := rfl
theorem f265_14 : fetch 265 14 = some (.invokevirtual 470, 249, 2, 0) := rfl
theorem f265_17 : fetch 265 17 = some (.ifCond .eq 7, 24, 0, 0) := rfl
theorem f265_20 : fetch 265 20 = some (.iconst 0, 0, 0, 0) := rfl
theorem f265_21 : fetch 265 21 = some (.goto 34, 55, 0, 0) := rfl
theorem f265_24 : fetch 265 24 = some (.aload_n 0, 0, 0, 0) := rfl
theorem f265_25 : fetch 265 25 = some (.ldc_w 495, 4, 1, 0) := rfl
theorem f265_28 : fetch 265 28 = some (.iload_n 2, 0, 0, 0) := rfl
theorem f265_29 : fetch 265 29 = some (.invokevirtual 470, 249, 2, 0) := rfl
theorem f265_32 : fetch 265 32 = some (.ifCond .eq 7, 39, 0, 0) := rfl
theorem f265_35 : fetch 265 35 = some (.iconst 1, 0, 0, 0) := rfl
theorem f265_36 : fetch 265 36 = some (.goto 19, 55, 0, 0) := rfl
theorem f265_39 : fetch 265 39 = some (.aload_n 0, 0, 0, 0) := rfl
theorem f265_40 : fetch 265 40 = some (.ldc_w 497, 5, 1, 0) := rfl
theorem f265_43 : fetch 265 43 = some (.iload_n 2, 0, 0, 0) := rfl
theorem f265_44 : fetch 265 44 = some (.invokevirtual 470, 249, 2, 0) := rfl
theorem f265_47 : fetch 265 47 = some (.ifCond .eq 7, 54, 0, 0) := rfl
theorem f265_50 : fetch 265 50 = some (.iconst 2, 0, 0, 0) := rfl
theorem f265_51 : fetch 265 51 = some (.goto 4, 55, 0, 0) := rfl
theorem f265_54 : fetch 265 54 = some (.iconst (-1), 0, 0, 0) := rfl
theorem f265_55 : fetch 265 55 = some (.istore_n 3, 0, 0, 0) := rfl
theorem f265_56 : fetch 265 56 = some (.iload_n 3, 0, 0, 0) := rfl
theorem f265_57 : fetch 265 57 = some (.iconst (-1), 0, 0, 0) := rfl
theorem f265_58 : fetch 265 58 = some (.if_icmp .ne 14, 72, 0, 0) := rfl
theorem f265_61 : fetch 265 61 = some (.aload_n 0, 0, 0, 0) := rfl
theorem f265_62 : fetch 265 62 = some (.iconst 0, 0, 0, 0) := rfl
theorem f265_63 : fetch 265 63 = some (.aload_n 0, 0, 0, 0) := rfl
theorem f265_64 : fetch 265 64 = some (.getfield 384, 12, 53, 0) := rfl
theorem f265_67 : fetch 265 67 = some (.invokevirtual 421, 244, 2, 0) := rfl
theorem f265_70 : fetch 265 70 = some (.iconst (-1), 0, 0, 0) := rfl
theorem f265_71 : fetch 265 71 = some (.ireturn, 0, 0, 0) := rfl
theorem f265_72 : fetch 265 72 = some (.aload_n 0, 0, 0, 0) := rfl
theorem f265_73 : fetch 265 73 = some (.getfield 135, 12, 60, 2) := rfl
theorem f265_76 : fetch 265 76 = some (.aload_n 0, 0, 0, 0) := rfl
theorem f265_77 : fetch 265 77 = some (.getfield 424, 12, 58, 0) := rfl
theorem f265_80 : fetch 265 80 = some (.iaload, 0, 0, 0) := rfl
theorem f265_81 : fetch 265 81 = some (.bipush 12, 0, 0, 0) := rfl
theorem f265_83 : fetch 265 83 = some (.if_icmp .ne 14, 97, 0, 0) := rfl
theorem f265_86 : fetch 265 86 = some (.aload_n 0, 0, 0, 0) := rfl
theorem f265_87 : fetch 265 87 = some (.iconst 4, 0, 0, 0) := rfl
theorem f265_88 : fetch 265 88 = some (.aload_n 0, 0, 0, 0) := rfl
theorem f265_89 : fetch 265 89 = some (.getfield 384, 12, 53, 0) := rfl
theorem f265_92 : fetch 265 92 = some (.invokevirtual 421, 244, 2, 0) := rfl
theorem f265_95 : fetch 265 95 = some (.iconst (-1), 0, 0, 0) := rfl
theorem f265_96 : fetch 265 96 = some (.ireturn, 0, 0, 0) := rfl
theorem f265_97 : fetch 265 97 = some (.aload_n 0, 0, 0, 0) := rfl
theorem f265_98 : fetch 265 98 = some (.iload_n 2, 0, 0, 0) := rfl
theorem f265_99 : fetch 265 99 = some (.putfield 384, 12, 53, 0) := rfl
theorem f265_102 : fetch 265 102 = some (.iload_n 3, 0, 0, 0) := rfl
theorem f265_103 : fetch 265 103 = some (.iconst 2, 0, 0, 0) := rfl
theorem f265_104 : fetch 265 104 = some (.if_icmp .ne 5, 109, 0, 0) := rfl
theorem f265_107 : fetch 265 107 = some (.iload_n 3, 0, 0, 0) := rfl
theorem f265_108 : fetch 265 108 = some (.ireturn, 0, 0, 0) := rfl
theorem f265_109 : fetch 265 109 = some (.aload_n 0, 0, 0, 0) := rfl
theorem f265_110 : fetch 265 110 = some (.invokevirtual 445, 245, 0, 0) := rfl
theorem f265_113 : fetch 265 113 = some (.aload_n 0, 0, 0, 0) := rfl
theorem f265_114 : fetch 265 114 = some (.invokevirtual 463, 248, 0, 0) := rfl
theorem f265_117 : fetch 265 117 = some (.istore_n 2, 0, 0, 0) := rfl
theorem f265_118 : fetch 265 118 = some (.iload_n 3, 0, 0, 0) := rfl
theorem f265_119 : fetch 265 119 = some (.ifCond .ne 84, 203, 0, 0) := rfl
theorem f265_122 : fetch 265 122 = some (.aload_n 0, 0, 0, 0) := rfl
theorem f265_123 : fetch 265 123 = some (.ldc_w 499, 6, 1, 0) := rfl
theorem f265_126 : fetch 265 126 = some (.iload_n 2, 0, 0, 0) := rfl
theorem f265_127 : fetch 265 127 = some (.invokevirtual 470, 249, 2, 0) := rfl
theorem f265_130 : fetch 265 130 = some (.ifCond .eq 7, 137, 0, 0) := rfl
theorem f265_133 : fetch 265 133 = some (.iconst 0, 0, 0, 0) := rfl
theorem f265_134 : fetch 265 134 = some (.goto 34, 168, 0, 0) := rfl
theorem f265_137 : fetch 265 137 = some (.aload_n 0, 0, 0, 0) := rfl
theorem f265_138 : fetch 265 138 = some (.ldc_w 501, 7, 1, 0) := rfl
theorem f265_141 : fetch 265 141 = some (.iload_n 2, 0, 0, 0) := rfl
theorem f265_142 : fetch 265 142 = some (.invokevirtual 470, 249, 2, 0) := rfl
theorem f265_145 : fetch 265 145 = some (.ifCond .eq 7, 152, 0, 0) := rfl
theorem f265_148 : fetch 265 148 = some (.iconst 1, 0, 0, 0) := rfl
theorem f265_149 : fetch 265 149 = some (.goto 19, 168, 0, 0) := rfl
theorem f265_152 : fetch 265 152 = some (.aload_n 0, 0, 0, 0) := rfl
theorem f265_153 : fetch 265 153 = some (.ldc_w 503, 8, 1, 0) := rfl
theorem f265_156 : fetch 265 156 = some (.iload_n 2, 0, 0, 0) := rfl
theorem f265_157 : fetch 265 157 = some (.invokevirtual 470, 249, 2, 0) := rfl
theorem f265_160 : fetch 265 160 = some (.ifCond .eq 7, 167, 0, 0) := rfl
theorem f265_163 : fetch 265 163 = some (.iconst 2, 0, 0, 0) := rfl
theorem f265_164 : fetch 265 164 = some (.goto 4, 168, 0, 0) := rfl
theorem f265_167 : fetch 265 167 = some (.iconst (-1), 0, 0, 0) := rfl
theorem f265_168 : fetch 265 168 = some (.istore 4, 0, 0, 0) := rfl
theorem f265_170 : fetch 265 170 = some (.iload 4, 0, 0, 0) := rfl
theorem f265_172 : fetch 265 172 = some (.iconst (-1), 0, 0, 0) := rfl
theorem f265_173 : fetch 265 173 = some (.if_icmp .ne 14, 187, 0, 0) := rfl
theorem f265_176 : fetch 265 176 = some (.aload_n 0, 0, 0, 0) := rfl
theorem f265_177 : fetch 265 177 = some (.iconst 0, 0, 0, 0) := rfl
theorem f265_178 : fetch 265 178 = some (.aload_n 0, 0, 0, 0) := rfl
theorem f265_179 : fetch 265 179 = some (.getfield 384, 12, 53, 0) := rfl
theorem f265_182 : fetch 265 182 = some (.invokevirtual 421, 244, 2, 0) := rfl
theorem f265_185 : fetch 265 185 = some (.iconst (-1), 0, 0, 0) := rfl
theorem f265_186 : fetch 265 186 = some (.ireturn, 0, 0, 0) := rfl
theorem f265_187 : fetch 265 187 = some (.aload_n 0, 0, 0, 0) := rfl
theorem f265_188 : fetch 265 188 = some (.getfield 141, 12, 62, 2) := rfl
theorem f265_191 : fetch 265 191 = some (.iload_n 1, 0, 0, 0) := rfl
theorem f265_192 : fetch 265 192 = some (.iload 4, 0, 0, 0) := rfl
theorem f265_194 : fetch 265 194 = some (.iastore, 0, 0, 0) := rfl
theorem f265_195 : fetch 265 195 = some (.aload_n 0, 0, 0, 0) := rfl
theorem f265_196 : fetch 265 196 = some (.iload_n 2, 0, 0, 0) := rfl
theorem f265_197 : fetch 265 197 = some (.putfield 384, 12, 53, 0) := rfl
theorem f265_200 : fetch 265 200 = some (.goto 36, 236, 0, 0) := rfl
theorem f265_203 : fetch 265 203 = some (.aload_n 0, 0, 0, 0) := rfl
theorem f265_204 : fetch 265 204 = some (.invokevirtual 448, 246, 0, 0) := rfl
theorem f265_207 : fetch 265 207 = some (.invokestatic 418, 247, 1, 1) := rfl
theorem f265_210 : fetch 265 210 = some (.ifCond .ne 14, 224, 0, 0) := rfl
theorem f265_213 : fetch 265 213 = some (.aload_n 0, 0, 0, 0) := rfl
theorem f265_214 : fetch 265 214 = some (.iconst 0, 0, 0, 0) := rfl
theorem f265_215 : fetch 265 215 = some (.aload_n 0, 0, 0, 0) := rfl
theorem f265_216 : fetch 265 216 = some (.getfield 384, 12, 53, 0) := rfl
theorem f265_219 : fetch 265 219 = some (.invokevirtual 421, 244, 2, 0) := rfl
theorem f265_222 : fetch 265 222 = some (.iconst (-1), 0, 0, 0) := rfl
theorem f265_223 : fetch 265 223 = some (.ireturn, 0, 0, 0) := rfl
theorem f265_224 : fetch 265 224 = some (.aload_n 0, 0, 0, 0) := rfl
theorem f265_225 : fetch 265 225 = some (.getfield 141, 12, 62, 2) := rfl
theorem f265_228 : fetch 265 228 = some (.iload_n 1, 0, 0, 0) := rfl
theorem f265_229 : fetch 265 229 = some (.aload_n 0, 0, 0, 0) := rfl
theorem f265_230 : fetch 265 230 = some (.bipush 99, 0, 0, 0) := rfl
theorem f265_232 : fetch 265 232 = some (.invokevirtual 460, 251, 1, 0) := rfl
theorem f265_235 : fetch 265 235 = some (.iastore, 0, 0, 0) := rfl
theorem f265_236 : fetch 265 236 = some (.aload_n 0, 0, 0, 0) := rfl
theorem f265_237 : fetch 265 237 = some (.invokevirtual 445, 245, 0, 0) := rfl
theorem f265_240 : fetch 265 240 = some (.aload_n 0, 0, 0, 0) := rfl
theorem f265_241 : fetch 265 241 = some (.invokevirtual 463, 248, 0, 0) := rfl
theorem f265_244 : fetch 265 244 = some (.istore_n 2, 0, 0, 0) := rfl
theorem f265_245 : fetch 265 245 = some (.aload_n 0, 0, 0, 0) := rfl
theorem f265_246 : fetch 265 246 = some (.ldc_w 505, 9, 1, 0) := rfl
theorem f265_249 : fetch 265 249 = some (.iload_n 2, 0, 0, 0) := rfl
theorem f265_250 : fetch 265 250 = some (.invokevirtual 470, 249, 2, 0) := rfl
theorem f265_253 : fetch 265 253 = some (.ifCond .ne 14, 267, 0, 0) := rfl
theorem f265_256 : fetch 265 256 = some (.aload_n 0, 0, 0, 0) := rfl
theorem f265_257 : fetch 265 257 = some (.iconst 0, 0, 0, 0) := rfl
theorem f265_258 : fetch 265 258 = some (.aload_n 0, 0, 0, 0) := rfl
theorem f265_259 : fetch 265 259 = some (.getfield 384, 12, 53, 0) := rfl
theorem f265_262 : fetch 265 262 = some (.invokevirtual 421, 244, 2, 0) := rfl
theorem f265_265 : fetch 265 265 = some (.iconst (-1), 0, 0, 0) := rfl
theorem f265_266 : fetch 265 266 = some (.ireturn, 0, 0, 0) := rfl
theorem f265_267 : fetch 265 267 = some (.aload_n 0, 0, 0, 0) := rfl
theorem f265_268 : fetch 265 268 = some (.iload_n 2, 0, 0, 0) := rfl
theorem f265_269 : fetch 265 269 = some (.putfield 384, 12, 53, 0) := rfl
theorem f265_272 : fetch 265 272 = some (.iload_n 3, 0, 0, 0) := rfl
theorem f265_273 : fetch 265 273 = some (.ireturn, 0, 0, 0) := rfl
set_option maxRecDepth 100000 in
set_option maxHeartbeats 4000000 in
theorem p265_j236_ok (d : Nat) (F : Nat) (a0 : Int32) (h : HS) (w : WF h) (v3 : Int32) (r : Int32 × HS) (hp : p265_j236 F a0 h v3 = some r) : ex (d + 2) 265 (236, [some (.ref (86)), none, none, some (.int (v3)), none], [], h) = some (some (.int (r.1)), r.2) := by
  unfold p265_j236 at hp
  refine e_aload_n f265_236 rfl ?_
  obtain ⟨r50, hr51, hp⟩ := bind_some hp
  try dsimp only at hp
  refine e_callV (st := []) (o := 86) (as := []) f265_237 (by decide) rfl rfl (Nat.le_of_ble_eq_true rfl) (WF.t w 86 (by decide)) (Nat.le_of_ble_eq_true rfl) (p245_ok (d + 1) F (h) w r50 hr51) ?_
  show ex _ 265 (240, [some (.ref (86)), none, none, some (.int (v3)), none], [], r50) = _
  refine e_aload_n f265_240 rfl ?_
  obtain ⟨r52, hr53, hp⟩ := bind_some hp
  try dsimp only at hp
  refine e_callV (st := []) (o := 86) (as := []) f265_241 (by decide) rfl rfl (Nat.le_of_ble_eq_true rfl) (WF.t (p245_w F (h) w  r50 hr51) 86 (by decide)) (Nat.le_of_ble_eq_true rfl) (p248_ok (d + 1) F (r50) (p245_w F (h) w  r50 hr51) r52 hr53) ?_
  show ex _ 265 (244, [some (.ref (86)), none, none, some (.int (v3)), none], [.int (r52)], r50) = _
  refine e_istore_n (ls2 := [some (.ref (86)), none, some (.int (r52)), some (.int (v3)), none]) f265_244 (Nat.le_of_ble_eq_true rfl) rfl ?_
  refine e_aload_n f265_245 rfl ?_
  refine e_ldcwS f265_246 rfl ?_
  refine e_iload_n f265_249 rfl ?_
  obtain ⟨r54, hr55, hp⟩ := bind_some hp
  try dsimp only at hp
  refine e_callV (st := []) (o := 86) (as := [.ref (9), .int (r52)]) f265_250 (by decide) rfl rfl (Nat.le_of_ble_eq_true rfl) (WF.t (p245_w F (h) w  r50 hr51) 86 (by decide)) (Nat.le_of_ble_eq_true rfl) (p249_ok (d + 1) F (r50) (p245_w F (h) w  r50 hr51) (some (9)) (r52) r54 hr55) ?_
  show ex _ 265 (253, [some (.ref (86)), none, some (.int (r52)), some (.int (v3)), none], [.int (r54)], r50) = _
  by_cases hc56 : (r54) = (0 : Int32)
  · rw [if_pos hc56] at hp
    refine e_if_ne_f f265_253 hc56 ?_
    refine e_aload_n f265_256 rfl ?_
    refine e_iconst (v := 0) f265_257 (by decide) ?_
    refine e_aload_n f265_258 rfl ?_
    refine e_getI f265_259 (WF.t (p245_w F (h) w  r50 hr51) 86 (by decide)) (by decide) ?_
    obtain ⟨r57, hr58, hp⟩ := bind_some hp
    try dsimp only at hp
    refine e_callV (st := []) (o := 86) (as := [.int (0), .int (hI (r50) (86) 53)]) f265_262 (by decide) rfl rfl (Nat.le_of_ble_eq_true rfl) (WF.t (p245_w F (h) w  r50 hr51) 86 (by decide)) (Nat.le_of_ble_eq_true rfl) (p244_ok (d + 1) (r50) (p245_w F (h) w  r50 hr51) (0) (hI (r50) (86) 53) r57 hr58) ?_
    show ex _ 265 (265, [some (.ref (86)), none, some (.int (r52)), some (.int (v3)), none], [], r57) = _
    refine e_iconst (v := -1) f265_265 (by decide) ?_
    have hp := Option.some.inj hp
    subst hp
    exact e_ireturn f265_266 (Or.inl rfl)
  · rw [if_neg hc56] at hp
    refine e_if_ne_t f265_253 hc56 ?_
    refine e_aload_n f265_267 rfl ?_
    refine e_iload_n f265_268 rfl ?_
    refine e_putI f265_269 (WF.t (p245_w F (h) w  r50 hr51) 86 (by decide)) rfl ?_
    refine e_iload_n f265_272 rfl ?_
    have hp := Option.some.inj hp
    subst hp
    exact e_ireturn f265_273 (Or.inl rfl)
set_option maxRecDepth 100000 in
set_option maxHeartbeats 4000000 in
theorem p265_j236_w (F : Nat) (a0 : Int32) (h : HS) (w : WF h) (v3 : Int32) (r : Int32 × HS) (hp : p265_j236 F a0 h v3 = some r) : WF r.2 := by
  unfold p265_j236 at hp
  obtain ⟨r50, hr51, hp⟩ := bind_some hp
  try dsimp only at hp
  obtain ⟨r52, hr53, hp⟩ := bind_some hp
  try dsimp only at hp
  obtain ⟨r54, hr55, hp⟩ := bind_some hp
  try dsimp only at hp
  by_cases hc56 : (r54) = (0 : Int32)
  · rw [if_pos hc56] at hp
    obtain ⟨r57, hr58, hp⟩ := bind_some hp
    try dsimp only at hp
    have hp := Option.some.inj hp
    subst hp
    exact ((p244_w (r50) (p245_w F (h) w  r50 hr51) (0) (hI (r50) (86) 53)  r57 hr58))
  · rw [if_neg hc56] at hp
    have hp := Option.some.inj hp
    subst hp
    exact ((p245_w F (h) w  r50 hr51))
set_option maxRecDepth 100000 in
set_option maxHeartbeats 4000000 in
theorem p265_j168_ok (d : Nat) (F : Nat) (a0 : Int32) (h : HS) (w : WF h) (v2 : Int32) (v3 : Int32) (s0 : Int32) (r : Int32 × HS) (hp : p265_j168 F a0 h v2 v3 s0 = some r) : ex (d + 2) 265 (168, [some (.ref (86)), some (.int (a0)), some (.int (v2)), some (.int (v3)), none], [.int (s0)], h) = some (some (.int (r.1)), r.2) := by
  unfold p265_j168 at hp
  refine e_istore (ls2 := [some (.ref (86)), some (.int (a0)), some (.int (v2)), some (.int (v3)), some (.int (s0))]) f265_168 (Nat.le_of_ble_eq_true rfl) rfl ?_
  refine e_iload f265_170 rfl ?_
  refine e_iconst (v := -1) f265_172 (by decide) ?_
  by_cases hc46 : (s0) = (((-1)) : Int32)
  · rw [if_pos hc46] at hp
    refine e_icmp_ne_f f265_173 hc46 ?_
    refine e_aload_n f265_176 rfl ?_
    refine e_iconst (v := 0) f265_177 (by decide) ?_
    refine e_aload_n f265_178 rfl ?_
    refine e_getI f265_179 (WF.t w 86 (by decide)) (by decide) ?_
    obtain ⟨r47, hr48, hp⟩ := bind_some hp
    try dsimp only at hp
    refine e_callV (st := []) (o := 86) (as := [.int (0), .int (hI (h) (86) 53)]) f265_182 (by decide) rfl rfl (Nat.le_of_ble_eq_true rfl) (WF.t w 86 (by decide)) (Nat.le_of_ble_eq_true rfl) (p244_ok (d + 1) (h) w (0) (hI (h) (86) 53) r47 hr48) ?_
    show ex _ 265 (185, [some (.ref (86)), some (.int (a0)), some (.int (v2)), some (.int (v3)), some (.int (s0))], [], r47) = _
    refine e_iconst (v := -1) f265_185 (by decide) ?_
    have hp := Option.some.inj hp
    subst hp
    exact e_ireturn f265_186 (Or.inl rfl)
  · rw [if_neg hc46] at hp
    refine e_icmp_ne_t f265_173 hc46 ?_
    refine e_aload_n f265_187 rfl ?_
    refine e_getR f265_188 (WF.t w 86 (by decide)) rfl (WF.r (q := 130) w 86 62 (by decide)) ?_
    refine e_iload_n f265_191 rfl ?_
    refine e_iload f265_192 rfl ?_
    by_cases hg49 : (a0) < (0 : Int32) ∨ 240 ≤ (a0).toNatClampNeg
    · rw [if_pos hg49] at hp; cases hp
    rw [if_neg hg49] at hp
    refine e_iastore f265_194 (WF.t w 130 (by decide)) (WF.n w 130 (by decide)) hg49 ?_
    refine e_aload_n f265_195 rfl ?_
    refine e_iload_n f265_196 rfl ?_
    refine e_putI f265_197 (WF.t w 86 (by decide)) rfl ?_
    refine e_goto f265_200 ?_
    refine ex_weak (ls := [some (.ref (86)), none, none, some (.int (v3)), none]) (le2_ok ⟨Or.inr rfl, Or.inl rfl, Or.inl rfl, Or.inr rfl, Or.inl rfl, trivial⟩) ?_
    exact p265_j236_ok d F a0 (hsI (hsI (h) (130) (a0).toNatClampNeg (s0)) (86) 53 (v2)) (w) (v3) _ hp
set_option maxRecDepth 100000 in
set_option maxHeartbeats 4000000 in
theorem p265_j168_w (F : Nat) (a0 : Int32) (h : HS) (w : WF h) (v2 : Int32) (v3 : Int32) (s0 : Int32) (r : Int32 × HS) (hp : p265_j168 F a0 h v2 v3 s0 = some r) : WF r.2 := by
  unfold p265_j168 at hp
  by_cases hc46 : (s0) = (((-1)) : Int32)
  · rw [if_pos hc46] at hp
    obtain ⟨r47, hr48, hp⟩ := bind_some hp
    try dsimp only at hp
    have hp := Option.some.inj hp
    subst hp
    exact ((p244_w (h) w (0) (hI (h) (86) 53)  r47 hr48))
  · rw [if_neg hc46] at hp
    by_cases hg49 : (a0) < (0 : Int32) ∨ 240 ≤ (a0).toNatClampNeg
    · rw [if_pos hg49] at hp; cases hp
    rw [if_neg hg49] at hp
    exact p265_j236_w F a0 (hsI (hsI (h) (130) (a0).toNatClampNeg (s0)) (86) 53 (v2)) (w) (v3) _ hp
set_option maxRecDepth 100000 in
set_option maxHeartbeats 4000000 in
theorem p265_j55_ok (d : Nat) (F : Nat) (a0 : Int32) (h : HS) (w : WF h) (v2 : Int32) (s0 : Int32) (r : Int32 × HS) (hp : p265_j55 F a0 h v2 s0 = some r) : ex (d + 2) 265 (55, [some (.ref (86)), some (.int (a0)), some (.int (v2)), none, none], [.int (s0)], h) = some (some (.int (r.1)), r.2) := by
  unfold p265_j55 at hp
  refine e_istore_n (ls2 := [some (.ref (86)), some (.int (a0)), some (.int (v2)), some (.int (s0)), none]) f265_55 (Nat.le_of_ble_eq_true rfl) rfl ?_
  refine e_iload_n f265_56 rfl ?_
  refine e_iconst (v := -1) f265_57 (by decide) ?_
  by_cases hc14 : (s0) = (((-1)) : Int32)
  · rw [if_pos hc14] at hp
    refine e_icmp_ne_f f265_58 hc14 ?_
    refine e_aload_n f265_61 rfl ?_
    refine e_iconst (v := 0) f265_62 (by decide) ?_
    refine e_aload_n f265_63 rfl ?_
    refine e_getI f265_64 (WF.t w 86 (by decide)) (by decide) ?_
    obtain ⟨r15, hr16, hp⟩ := bind_some hp
    try dsimp only at hp
    refine e_callV (st := []) (o := 86) (as := [.int (0), .int (hI (h) (86) 53)]) f265_67 (by decide) rfl rfl (Nat.le_of_ble_eq_true rfl) (WF.t w 86 (by decide)) (Nat.le_of_ble_eq_true rfl) (p244_ok (d + 1) (h) w (0) (hI (h) (86) 53) r15 hr16) ?_
    show ex _ 265 (70, [some (.ref (86)), some (.int (a0)), some (.int (v2)), some (.int (s0)), none], [], r15) = _
    refine e_iconst (v := -1) f265_70 (by decide) ?_
    have hp := Option.some.inj hp
    subst hp
    exact e_ireturn f265_71 (Or.inl rfl)
  · rw [if_neg hc14] at hp
    refine e_icmp_ne_t f265_58 hc14 ?_
    refine e_aload_n f265_72 rfl ?_
    refine e_getR f265_73 (WF.t w 86 (by decide)) rfl (WF.r (q := 128) w 86 60 (by decide)) ?_
    refine e_aload_n f265_76 rfl ?_
    refine e_getI f265_77 (WF.t w 86 (by decide)) (by decide) ?_
    by_cases hg17 : (hI (h) (86) 58) < (0 : Int32) ∨ 20 ≤ (hI (h) (86) 58).toNatClampNeg
    · rw [if_pos hg17] at hp; cases hp
    rw [if_neg hg17] at hp
    refine e_iaload f265_80 (Or.inl (WF.t w 128 (by decide))) (WF.n w 128 (by decide)) hg17 ?_
    refine e_bipush (v := 12) f265_81 (by decide) ?_
    by_cases hc18 : (hI (h) (128) (hI (h) (86) 58).toNatClampNeg) = ((12) : Int32)
    · rw [if_pos hc18] at hp
      refine e_icmp_ne_f f265_83 hc18 ?_
      refine e_aload_n f265_86 rfl ?_
      refine e_iconst (v := 4) f265_87 (by decide) ?_
      refine e_aload_n f265_88 rfl ?_
      refine e_getI f265_89 (WF.t w 86 (by decide)) (by decide) ?_
      obtain ⟨r19, hr20, hp⟩ := bind_some hp
      try dsimp only at hp
      refine e_callV (st := []) (o := 86) (as := [.int (4), .int (hI (h) (86) 53)]) f265_92 (by decide) rfl rfl (Nat.le_of_ble_eq_true rfl) (WF.t w 86 (by decide)) (Nat.le_of_ble_eq_true rfl) (p244_ok (d + 1) (h) w (4) (hI (h) (86) 53) r19 hr20) ?_
      show ex _ 265 (95, [some (.ref (86)), some (.int (a0)), some (.int (v2)), some (.int (s0)), none], [], r19) = _
      refine e_iconst (v := -1) f265_95 (by decide) ?_
      have hp := Option.some.inj hp
      subst hp
      exact e_ireturn f265_96 (Or.inl rfl)
    · rw [if_neg hc18] at hp
      refine e_icmp_ne_t f265_83 hc18 ?_
      refine e_aload_n f265_97 rfl ?_
      refine e_iload_n f265_98 rfl ?_
      refine e_putI f265_99 (WF.t w 86 (by decide)) rfl ?_
      refine e_iload_n f265_102 rfl ?_
      refine e_iconst (v := 2) f265_103 (by decide) ?_
      by_cases hc21 : (s0) = ((2) : Int32)
      · rw [if_pos hc21] at hp
        refine e_icmp_ne_f f265_104 hc21 ?_
        refine e_iload_n f265_107 rfl ?_
        have hp := Option.some.inj hp
        subst hp
        exact e_ireturn f265_108 (Or.inl rfl)
      · rw [if_neg hc21] at hp
        refine e_icmp_ne_t f265_104 hc21 ?_
        refine e_aload_n f265_109 rfl ?_
        obtain ⟨r22, hr23, hp⟩ := bind_some hp
        try dsimp only at hp
        refine e_callV (st := []) (o := 86) (as := []) f265_110 (by decide) rfl rfl (Nat.le_of_ble_eq_true rfl) (WF.t w 86 (by decide)) (Nat.le_of_ble_eq_true rfl) (p245_ok (d + 1) F (hsI (h) (86) 53 (v2)) w r22 hr23) ?_
        show ex _ 265 (113, [some (.ref (86)), some (.int (a0)), some (.int (v2)), some (.int (s0)), none], [], r22) = _
        refine e_aload_n f265_113 rfl ?_
        obtain ⟨r24, hr25, hp⟩ := bind_some hp
        try dsimp only at hp
        refine e_callV (st := []) (o := 86) (as := []) f265_114 (by decide) rfl rfl (Nat.le_of_ble_eq_true rfl) (WF.t (p245_w F (hsI (h) (86) 53 (v2)) w  r22 hr23) 86 (by decide)) (Nat.le_of_ble_eq_true rfl) (p248_ok (d + 1) F (r22) (p245_w F (hsI (h) (86) 53 (v2)) w  r22 hr23) r24 hr25) ?_
        show ex _ 265 (117, [some (.ref (86)), some (.int (a0)), some (.int (v2)), some (.int (s0)), none], [.int (r24)], r22) = _
        refine e_istore_n (ls2 := [some (.ref (86)), some (.int (a0)), some (.int (r24)), some (.int (s0)), none]) f265_117 (Nat.le_of_ble_eq_true rfl) rfl ?_
        refine e_iload_n f265_118 rfl ?_
        by_cases hc26 : (s0) = (0 : Int32)
        · rw [if_pos hc26] at hp
          refine e_if_ne_f f265_119 hc26 ?_
          refine e_aload_n f265_122 rfl ?_
          refine e_ldcwS f265_123 rfl ?_
          refine e_iload_n f265_126 rfl ?_
          obtain ⟨r27, hr28, hp⟩ := bind_some hp
          try dsimp only at hp
          refine e_callV (st := []) (o := 86) (as := [.ref (6), .int (r24)]) f265_127 (by decide) rfl rfl (Nat.le_of_ble_eq_true rfl) (WF.t (p245_w F (hsI (h) (86) 53 (v2)) w  r22 hr23) 86 (by decide)) (Nat.le_of_ble_eq_true rfl) (p249_ok (d + 1) F (r22) (p245_w F (hsI (h) (86) 53 (v2)) w  r22 hr23) (some (6)) (r24) r27 hr28) ?_
          show ex _ 265 (130, [some (.ref (86)), some (.int (a0)), some (.int (r24)), some (.int (s0)), none], [.int (r27)], r22) = _
          by_cases hc29 : (r27) = (0 : Int32)
          · rw [if_pos hc29] at hp
            refine e_if_eq_t f265_130 hc29 ?_
            refine e_aload_n f265_137 rfl ?_
            refine e_ldcwS f265_138 rfl ?_
            refine e_iload_n f265_141 rfl ?_
            obtain ⟨r30, hr31, hp⟩ := bind_some hp
            try dsimp only at hp
            refine e_callV (st := []) (o := 86) (as := [.ref (7), .int (r24)]) f265_142 (by decide) rfl rfl (Nat.le_of_ble_eq_true rfl) (WF.t (p245_w F (hsI (h) (86) 53 (v2)) w  r22 hr23) 86 (by decide)) (Nat.le_of_ble_eq_true rfl) (p249_ok (d + 1) F (r22) (p245_w F (hsI (h) (86) 53 (v2)) w  r22 hr23) (some (7)) (r24) r30 hr31) ?_
            show ex _ 265 (145, [some (.ref (86)), some (.int (a0)), some (.int (r24)), some (.int (s0)), none], [.int (r30)], r22) = _
            by_cases hc32 : (r30) = (0 : Int32)
            · rw [if_pos hc32] at hp
              refine e_if_eq_t f265_145 hc32 ?_
              refine e_aload_n f265_152 rfl ?_
              refine e_ldcwS f265_153 rfl ?_
              refine e_iload_n f265_156 rfl ?_
              obtain ⟨r33, hr34, hp⟩ := bind_some hp
              try dsimp only at hp
              refine e_callV (st := []) (o := 86) (as := [.ref (8), .int (r24)]) f265_157 (by decide) rfl rfl (Nat.le_of_ble_eq_true rfl) (WF.t (p245_w F (hsI (h) (86) 53 (v2)) w  r22 hr23) 86 (by decide)) (Nat.le_of_ble_eq_true rfl) (p249_ok (d + 1) F (r22) (p245_w F (hsI (h) (86) 53 (v2)) w  r22 hr23) (some (8)) (r24) r33 hr34) ?_
              show ex _ 265 (160, [some (.ref (86)), some (.int (a0)), some (.int (r24)), some (.int (s0)), none], [.int (r33)], r22) = _
              by_cases hc35 : (r33) = (0 : Int32)
              · rw [if_pos hc35] at hp
                refine e_if_eq_t f265_160 hc35 ?_
                refine e_iconst (v := -1) f265_167 (by decide) ?_
                refine ex_weak (ls := [some (.ref (86)), some (.int (a0)), some (.int (r24)), some (.int (s0)), none]) (le2_ok ⟨Or.inr rfl, Or.inr rfl, Or.inr rfl, Or.inr rfl, Or.inl rfl, trivial⟩) ?_
                exact p265_j168_ok d F a0 (r22) ((p245_w F (hsI (h) (86) 53 (v2)) w  r22 hr23)) (r24) (s0) ((-1)) _ hp
              · rw [if_neg hc35] at hp
                refine e_if_eq_f f265_160 hc35 ?_
                refine e_iconst (v := 2) f265_163 (by decide) ?_
                refine e_goto f265_164 ?_
                refine ex_weak (ls := [some (.ref (86)), some (.int (a0)), some (.int (r24)), some (.int (s0)), none]) (le2_ok ⟨Or.inr rfl, Or.inr rfl, Or.inr rfl, Or.inr rfl, Or.inl rfl, trivial⟩) ?_
                exact p265_j168_ok d F a0 (r22) ((p245_w F (hsI (h) (86) 53 (v2)) w  r22 hr23)) (r24) (s0) (2) _ hp
            · rw [if_neg hc32] at hp
              refine e_if_eq_f f265_145 hc32 ?_
              refine e_iconst (v := 1) f265_148 (by decide) ?_
              refine e_goto f265_149 ?_
              refine ex_weak (ls := [some (.ref (86)), some (.int (a0)), some (.int (r24)), some (.int (s0)), none]) (le2_ok ⟨Or.inr rfl, Or.inr rfl, Or.inr rfl, Or.inr rfl, Or.inl rfl, trivial⟩) ?_
              exact p265_j168_ok d F a0 (r22) ((p245_w F (hsI (h) (86) 53 (v2)) w  r22 hr23)) (r24) (s0) (1) _ hp
          · rw [if_neg hc29] at hp
            refine e_if_eq_f f265_130 hc29 ?_
            refine e_iconst (v := 0) f265_133 (by decide) ?_
            refine e_goto f265_134 ?_
            refine ex_weak (ls := [some (.ref (86)), some (.int (a0)), some (.int (r24)), some (.int (s0)), none]) (le2_ok ⟨Or.inr rfl, Or.inr rfl, Or.inr rfl, Or.inr rfl, Or.inl rfl, trivial⟩) ?_
            exact p265_j168_ok d F a0 (r22) ((p245_w F (hsI (h) (86) 53 (v2)) w  r22 hr23)) (r24) (s0) (0) _ hp
        · rw [if_neg hc26] at hp
          refine e_if_ne_t f265_119 hc26 ?_
          refine e_aload_n f265_203 rfl ?_
          obtain ⟨r36, hr37, hp⟩ := bind_some hp
          try dsimp only at hp
          refine e_callV (st := []) (o := 86) (as := []) f265_204 (by decide) rfl rfl (Nat.le_of_ble_eq_true rfl) (WF.t (p245_w F (hsI (h) (86) 53 (v2)) w  r22 hr23) 86 (by decide)) (Nat.le_of_ble_eq_true rfl) (p246_ok (d + 1) (r22) (p245_w F (hsI (h) (86) 53 (v2)) w  r22 hr23) r36 hr37) ?_
          show ex _ 265 (207, [some (.ref (86)), some (.int (a0)), some (.int (r24)), some (.int (s0)), none], [.int (r36)], r22) = _
          obtain ⟨r38, hr39, hp⟩ := bind_some hp
          try dsimp only at hp
          refine e_callS (st := []) (as := [.int (r36)]) f265_207 (by decide) rfl rfl (Nat.le_of_ble_eq_true rfl) (Nat.le_of_ble_eq_true rfl) (p247_ok (d + 1) (r22) (p245_w F (hsI (h) (86) 53 (v2)) w  r22 hr23) (r36) r38 hr39) ?_
          show ex _ 265 (210, [some (.ref (86)), some (.int (a0)), some (.int (r24)), some (.int (s0)), none], [.int (r38)], r22) = _
          by_cases hc40 : (r38) = (0 : Int32)
          · rw [if_pos hc40] at hp
            refine e_if_ne_f f265_210 hc40 ?_
            refine e_aload_n f265_213 rfl ?_
            refine e_iconst (v := 0) f265_214 (by decide) ?_
            refine e_aload_n f265_215 rfl ?_
            refine e_getI f265_216 (WF.t (p245_w F (hsI (h) (86) 53 (v2)) w  r22 hr23) 86 (by decide)) (by decide) ?_
            obtain ⟨r41, hr42, hp⟩ := bind_some hp
            try dsimp only at hp
            refine e_callV (st := []) (o := 86) (as := [.int (0), .int (hI (r22) (86) 53)]) f265_219 (by decide) rfl rfl (Nat.le_of_ble_eq_true rfl) (WF.t (p245_w F (hsI (h) (86) 53 (v2)) w  r22 hr23) 86 (by decide)) (Nat.le_of_ble_eq_true rfl) (p244_ok (d + 1) (r22) (p245_w F (hsI (h) (86) 53 (v2)) w  r22 hr23) (0) (hI (r22) (86) 53) r41 hr42) ?_
            show ex _ 265 (222, [some (.ref (86)), some (.int (a0)), some (.int (r24)), some (.int (s0)), none], [], r41) = _
            refine e_iconst (v := -1) f265_222 (by decide) ?_
            have hp := Option.some.inj hp
            subst hp
            exact e_ireturn f265_223 (Or.inl rfl)
          · rw [if_neg hc40] at hp
            refine e_if_ne_t f265_210 hc40 ?_
            refine e_aload_n f265_224 rfl ?_
            refine e_getR f265_225 (WF.t (p245_w F (hsI (h) (86) 53 (v2)) w  r22 hr23) 86 (by decide)) rfl (WF.r (q := 130) (p245_w F (hsI (h) (86) 53 (v2)) w  r22 hr23) 86 62 (by decide)) ?_
            refine e_iload_n f265_228 rfl ?_
            refine e_aload_n f265_229 rfl ?_
            refine e_bipush (v := 99) f265_230 (by decide) ?_
            obtain ⟨r43, hr44, hp⟩ := bind_some hp
            try dsimp only at hp
            refine e_callV (st := [.int (a0), .ref (130)]) (o := 86) (as := [.int (99)]) f265_232 (by decide) rfl rfl (Nat.le_of_ble_eq_true rfl) (WF.t (p245_w F (hsI (h) (86) 53 (v2)) w  r22 hr23) 86 (by decide)) (Nat.le_of_ble_eq_true rfl) (p251_ok d F (r22) (p245_w F (hsI (h) (86) 53 (v2)) w  r22 hr23) (99) r43 hr44) ?_
            show ex _ 265 (235, [some (.ref (86)), some (.int (a0)), some (.int (r24)), some (.int (s0)), none], [.int (r43.1), .int (a0), .ref (130)], r43.2) = _
            by_cases hg45 : (a0) < (0 : Int32) ∨ 240 ≤ (a0).toNatClampNeg
            · rw [if_pos hg45] at hp; cases hp
            rw [if_neg hg45] at hp
            refine e_iastore f265_235 (WF.t (p251_w F (r22) (p245_w F (hsI (h) (86) 53 (v2)) w  r22 hr23) (99)  r43 hr44) 130 (by decide)) (WF.n (p251_w F (r22) (p245_w F (hsI (h) (86) 53 (v2)) w  r22 hr23) (99)  r43 hr44) 130 (by decide)) hg45 ?_
            refine ex_weak (ls := [some (.ref (86)), none, none, some (.int (s0)), none]) (le2_ok ⟨Or.inr rfl, Or.inl rfl, Or.inl rfl, Or.inr rfl, Or.inl rfl, trivial⟩) ?_
            exact p265_j236_ok d F a0 (hsI (r43.2) (130) (a0).toNatClampNeg (r43.1)) ((p251_w F (r22) (p245_w F (hsI (h) (86) 53 (v2)) w  r22 hr23) (99)  r43 hr44)) (s0) _ hp
set_option maxRecDepth 100000 in
set_option maxHeartbeats 4000000 in
theorem p265_j55_w (F : Nat) (a0 : Int32) (h : HS) (w : WF h) (v2 : Int32) (s0 : Int32) (r : Int32 × HS) (hp : p265_j55 F a0 h v2 s0 = some r) : WF r.2 := by
  unfold p265_j55 at hp
  by_cases hc14 : (s0) = (((-1)) : Int32)
  · rw [if_pos hc14] at hp
    obtain ⟨r15, hr16, hp⟩ := bind_some hp
    try dsimp only at hp
    have hp := Option.some.inj hp
    subst hp
    exact ((p244_w (h) w (0) (hI (h) (86) 53)  r15 hr16))
  · rw [if_neg hc14] at hp
    by_cases hg17 : (hI (h) (86) 58) < (0 : Int32) ∨ 20 ≤ (hI (h) (86) 58).toNatClampNeg
    · rw [if_pos hg17] at hp; cases hp
    rw [if_neg hg17] at hp
    by_cases hc18 : (hI (h) (128) (hI (h) (86) 58).toNatClampNeg) = ((12) : Int32)
    · rw [if_pos hc18] at hp
      obtain ⟨r19, hr20, hp⟩ := bind_some hp
      try dsimp only at hp
      have hp := Option.some.inj hp
      subst hp
      exact ((p244_w (h) w (4) (hI (h) (86) 53)  r19 hr20))
    · rw [if_neg hc18] at hp
      by_cases hc21 : (s0) = ((2) : Int32)
      · rw [if_pos hc21] at hp
        have hp := Option.some.inj hp
        subst hp
        exact (w)
      · rw [if_neg hc21] at hp
        obtain ⟨r22, hr23, hp⟩ := bind_some hp
        try dsimp only at hp
        obtain ⟨r24, hr25, hp⟩ := bind_some hp
        try dsimp only at hp
        by_cases hc26 : (s0) = (0 : Int32)
        · rw [if_pos hc26] at hp
          obtain ⟨r27, hr28, hp⟩ := bind_some hp
          try dsimp only at hp
          by_cases hc29 : (r27) = (0 : Int32)
          · rw [if_pos hc29] at hp
            obtain ⟨r30, hr31, hp⟩ := bind_some hp
            try dsimp only at hp
            by_cases hc32 : (r30) = (0 : Int32)
            · rw [if_pos hc32] at hp
              obtain ⟨r33, hr34, hp⟩ := bind_some hp
              try dsimp only at hp
              by_cases hc35 : (r33) = (0 : Int32)
              · rw [if_pos hc35] at hp
                exact p265_j168_w F a0 (r22) ((p245_w F (hsI (h) (86) 53 (v2)) w  r22 hr23)) (r24) (s0) ((-1)) _ hp
              · rw [if_neg hc35] at hp
                exact p265_j168_w F a0 (r22) ((p245_w F (hsI (h) (86) 53 (v2)) w  r22 hr23)) (r24) (s0) (2) _ hp
            · rw [if_neg hc32] at hp
              exact p265_j168_w F a0 (r22) ((p245_w F (hsI (h) (86) 53 (v2)) w  r22 hr23)) (r24) (s0) (1) _ hp
          · rw [if_neg hc29] at hp
            exact p265_j168_w F a0 (r22) ((p245_w F (hsI (h) (86) 53 (v2)) w  r22 hr23)) (r24) (s0) (0) _ hp
        · rw [if_neg hc26] at hp
          obtain ⟨r36, hr37, hp⟩ := bind_some hp
          try dsimp only at hp
          obtain ⟨r38, hr39, hp⟩ := bind_some hp
          try dsimp only at hp
          by_cases hc40 : (r38) = (0 : Int32)
          · rw [if_pos hc40] at hp
            obtain ⟨r41, hr42, hp⟩ := bind_some hp
            try dsimp only at hp
            have hp := Option.some.inj hp
            subst hp
            exact ((p244_w (r22) (p245_w F (hsI (h) (86) 53 (v2)) w  r22 hr23) (0) (hI (r22) (86) 53)  r41 hr42))
          · rw [if_neg hc40] at hp
            obtain ⟨r43, hr44, hp⟩ := bind_some hp
            try dsimp only at hp
            by_cases hg45 : (a0) < (0 : Int32) ∨ 240 ≤ (a0).toNatClampNeg
            · rw [if_pos hg45] at hp; cases hp
            rw [if_neg hg45] at hp
            exact p265_j236_w F a0 (hsI (r43.2) (130) (a0).toNatClampNeg (r43.1)) ((p251_w F (r22) (p245_w F (hsI (h) (86) 53 (v2)) w  r22 hr23) (99)  r43 hr44)) (s0) _ hp
set_option maxRecDepth 100000 in
set_option maxHeartbeats 4000000 in
theorem p265_ok (d : Nat) (F : Nat) (h : HS) (w : WF h) (a0 : Int32) (r : Int32 × HS) (hp : p265 F h a0 = some r) : ex (d + 2) 265 (ent 265 [.ref (86), .int (a0)] h) = some (some (.int (r.1)), r.2) := by
  rw [show ent 265 [.ref (86), .int (a0)] h = (0, [some (.ref (86)), some (.int (a0)), none, none, none], [], h) from by  rfl]
  refine ex_weak (ls := [some (.ref (86)), some (.int (a0)), none, none, none]) (le2_ok ⟨Or.inr rfl, Or.inr rfl, Or.inr rfl, Or.inr rfl, Or.inr rfl, trivial⟩) ?_
  unfold p265 at hp
  refine e_aload_n f265_0 rfl ?_
  obtain ⟨r1, hr2, hp⟩ := bind_some hp
  try dsimp only at hp
  refine e_callV (st := []) (o := 86) (as := []) f265_1 (by decide) rfl rfl (Nat.le_of_ble_eq_true rfl) (WF.t w 86 (by decide)) (Nat.le_of_ble_eq_true rfl) (p245_ok (d + 1) F (h) w r1 hr2) ?_
  show ex _ 265 (4, [some (.ref (86)), some (.int (a0)), none, none, none], [], r1) = _
  refine e_aload_n f265_4 rfl ?_
  obtain ⟨r3, hr4, hp⟩ := bind_some hp
  try dsimp only at hp
  refine e_callV (st := []) (o := 86) (as := []) f265_5 (by decide) rfl rfl (Nat.le_of_ble_eq_true rfl) (WF.t (p245_w F (h) w  r1 hr2) 86 (by decide)) (Nat.le_of_ble_eq_true rfl) (p248_ok (d + 1) F (r1) (p245_w F (h) w  r1 hr2) r3 hr4) ?_
  show ex _ 265 (8, [some (.ref (86)), some (.int (a0)), none, none, none], [.int (r3)], r1) = _
  refine e_istore_n (ls2 := [some (.ref (86)), some (.int (a0)), some (.int (r3)), none, none]) f265_8 (Nat.le_of_ble_eq_true rfl) rfl ?_
  refine e_aload_n f265_9 rfl ?_
  refine e_ldcwS f265_10 rfl ?_
  refine e_iload_n f265_13 rfl ?_
  obtain ⟨r5, hr6, hp⟩ := bind_some hp
  try dsimp only at hp
  refine e_callV (st := []) (o := 86) (as := [.ref (3), .int (r3)]) f265_14 (by decide) rfl rfl (Nat.le_of_ble_eq_true rfl) (WF.t (p245_w F (h) w  r1 hr2) 86 (by decide)) (Nat.le_of_ble_eq_true rfl) (p249_ok (d + 1) F (r1) (p245_w F (h) w  r1 hr2) (some (3)) (r3) r5 hr6) ?_
  show ex _ 265 (17, [some (.ref (86)), some (.int (a0)), some (.int (r3)), none, none], [.int (r5)], r1) = _
  by_cases hc7 : (r5) = (0 : Int32)
  · rw [if_pos hc7] at hp
    refine e_if_eq_t f265_17 hc7 ?_
    refine e_aload_n f265_24 rfl ?_
    refine e_ldcwS f265_25 rfl ?_
    refine e_iload_n f265_28 rfl ?_
    obtain ⟨r8, hr9, hp⟩ := bind_some hp
    try dsimp only at hp
    refine e_callV (st := []) (o := 86) (as := [.ref (4), .int (r3)]) f265_29 (by decide) rfl rfl (Nat.le_of_ble_eq_true rfl) (WF.t (p245_w F (h) w  r1 hr2) 86 (by decide)) (Nat.le_of_ble_eq_true rfl) (p249_ok (d + 1) F (r1) (p245_w F (h) w  r1 hr2) (some (4)) (r3) r8 hr9) ?_
    show ex _ 265 (32, [some (.ref (86)), some (.int (a0)), some (.int (r3)), none, none], [.int (r8)], r1) = _
    by_cases hc10 : (r8) = (0 : Int32)
    · rw [if_pos hc10] at hp
      refine e_if_eq_t f265_32 hc10 ?_
      refine e_aload_n f265_39 rfl ?_
      refine e_ldcwS f265_40 rfl ?_
      refine e_iload_n f265_43 rfl ?_
      obtain ⟨r11, hr12, hp⟩ := bind_some hp
      try dsimp only at hp
      refine e_callV (st := []) (o := 86) (as := [.ref (5), .int (r3)]) f265_44 (by decide) rfl rfl (Nat.le_of_ble_eq_true rfl) (WF.t (p245_w F (h) w  r1 hr2) 86 (by decide)) (Nat.le_of_ble_eq_true rfl) (p249_ok (d + 1) F (r1) (p245_w F (h) w  r1 hr2) (some (5)) (r3) r11 hr12) ?_
      show ex _ 265 (47, [some (.ref (86)), some (.int (a0)), some (.int (r3)), none, none], [.int (r11)], r1) = _
      by_cases hc13 : (r11) = (0 : Int32)
      · rw [if_pos hc13] at hp
        refine e_if_eq_t f265_47 hc13 ?_
        refine e_iconst (v := -1) f265_54 (by decide) ?_
        refine ex_weak (ls := [some (.ref (86)), some (.int (a0)), some (.int (r3)), none, none]) (le2_ok ⟨Or.inr rfl, Or.inr rfl, Or.inr rfl, Or.inl rfl, Or.inl rfl, trivial⟩) ?_
        exact p265_j55_ok d F a0 (r1) ((p245_w F (h) w  r1 hr2)) (r3) ((-1)) _ hp
      · rw [if_neg hc13] at hp
        refine e_if_eq_f f265_47 hc13 ?_
        refine e_iconst (v := 2) f265_50 (by decide) ?_
        refine e_goto f265_51 ?_
        refine ex_weak (ls := [some (.ref (86)), some (.int (a0)), some (.int (r3)), none, none]) (le2_ok ⟨Or.inr rfl, Or.inr rfl, Or.inr rfl, Or.inl rfl, Or.inl rfl, trivial⟩) ?_
        exact p265_j55_ok d F a0 (r1) ((p245_w F (h) w  r1 hr2)) (r3) (2) _ hp
    · rw [if_neg hc10] at hp
      refine e_if_eq_f f265_32 hc10 ?_
      refine e_iconst (v := 1) f265_35 (by decide) ?_
      refine e_goto f265_36 ?_
      refine ex_weak (ls := [some (.ref (86)), some (.int (a0)), some (.int (r3)), none, none]) (le2_ok ⟨Or.inr rfl, Or.inr rfl, Or.inr rfl, Or.inl rfl, Or.inl rfl, trivial⟩) ?_
      exact p265_j55_ok d F a0 (r1) ((p245_w F (h) w  r1 hr2)) (r3) (1) _ hp
  · rw [if_neg hc7] at hp
    refine e_if_eq_f f265_17 hc7 ?_
    refine e_iconst (v := 0) f265_20 (by decide) ?_
    refine e_goto f265_21 ?_
    refine ex_weak (ls := [some (.ref (86)), some (.int (a0)), some (.int (r3)), none, none]) (le2_ok ⟨Or.inr rfl, Or.inr rfl, Or.inr rfl, Or.inl rfl, Or.inl rfl, trivial⟩) ?_
    exact p265_j55_ok d F a0 (r1) ((p245_w F (h) w  r1 hr2)) (r3) (0) _ hp
set_option maxRecDepth 100000 in
set_option maxHeartbeats 4000000 in
theorem p265_w (F : Nat) (h : HS) (w : WF h) (a0 : Int32) (r : Int32 × HS) (hp : p265 F h a0 = some r) : WF r.2 := by
  unfold p265 at hp
  obtain ⟨r1, hr2, hp⟩ := bind_some hp
  try dsimp only at hp
  obtain ⟨r3, hr4, hp⟩ := bind_some hp
  try dsimp only at hp
  obtain ⟨r5, hr6, hp⟩ := bind_some hp
  try dsimp only at hp
  by_cases hc7 : (r5) = (0 : Int32)
  · rw [if_pos hc7] at hp
    obtain ⟨r8, hr9, hp⟩ := bind_some hp
    try dsimp only at hp
    by_cases hc10 : (r8) = (0 : Int32)
    · rw [if_pos hc10] at hp
      obtain ⟨r11, hr12, hp⟩ := bind_some hp
      try dsimp only at hp
      by_cases hc13 : (r11) = (0 : Int32)
      · rw [if_pos hc13] at hp
        exact p265_j55_w F a0 (r1) ((p245_w F (h) w  r1 hr2)) (r3) ((-1)) _ hp
      · rw [if_neg hc13] at hp
        exact p265_j55_w F a0 (r1) ((p245_w F (h) w  r1 hr2)) (r3) (2) _ hp
    · rw [if_neg hc10] at hp
      exact p265_j55_w F a0 (r1) ((p245_w F (h) w  r1 hr2)) (r3) (1) _ hp
  · rw [if_neg hc7] at hp
    exact p265_j55_w F a0 (r1) ((p245_w F (h) w  r1 hr2)) (r3) (0) _ hp
theorem f266_0 : fetch 266 0 = some (.bipush 12, 0, 0, 0) := rfl
theorem f266_2 : fetch 266 2 = some (.aload_n 0, 0, 0, 0) := rfl
theorem f266_3 : fetch 266 3 = some (.getfield 424, 12, 58, 0) := rfl
theorem f266_6 : fetch 266 6 = some (.imul, 0, 0, 0) := rfl
theorem f266_7 : fetch 266 7 = some (.aload_n 0, 0, 0, 0) := rfl
theorem f266_8 : fetch 266 8 = some (.getfield 135, 12, 60, 2) := rfl
theorem f266_11 : fetch 266 11 = some (.aload_n 0, 0, 0, 0) := rfl
theorem f266_12 : fetch 266 12 = some (.getfield 424, 12, 58, 0) := rfl
theorem f266_15 : fetch 266 15 = some (.iaload, 0, 0, 0) := rfl
theorem f266_16 : fetch 266 16 = some (.bipush 12, 0, 0, 0) := rfl
theorem f266_18 : fetch 266 18 = some (.if_icmp .ge 15, 33, 0, 0) := rfl
theorem f266_21 : fetch 266 21 = some (.aload_n 0, 0, 0, 0) := rfl
theorem f266_22 : fetch 266 22 = some (.getfield 135, 12, 60, 2) := rfl
theorem f266_25 : fetch 266 25 = some (.aload_n 0, 0, 0, 0) := rfl
theorem f266_26 : fetch 266 26 = some (.getfield 424, 12, 58, 0) := rfl
theorem f266_29 : fetch 266 29 = some (.iaload, 0, 0, 0) := rfl
theorem f266_30 : fetch 266 30 = some (.goto 4, 34, 0, 0) := rfl
theorem f266_33 : fetch 266 33 = some (.iconst 0, 0, 0, 0) := rfl
theorem f266_34 : fetch 266 34 = some (.iadd, 0, 0, 0) := rfl
theorem f266_35 : fetch 266 35 = some (.istore_n 1, 0, 0, 0) := rfl
theorem f266_36 : fetch 266 36 = some (.aload_n 0, 0, 0, 0) := rfl
theorem f266_37 : fetch 266 37 = some (.iload_n 1, 0, 0, 0) := rfl
theorem f266_38 : fetch 266 38 = some (.invokevirtual 507, 265, 1, 0) := rfl
theorem f266_41 : fetch 266 41 = some (.istore_n 2, 0, 0, 0) := rfl
theorem f266_42 : fetch 266 42 = some (.aload_n 0, 0, 0, 0) := rfl
theorem f266_43 : fetch 266 43 = some (.getfield 381, 12, 55, 0) := rfl
theorem f266_46 : fetch 266 46 = some (.ifCond .le 4, 50, 0, 0) := rfl
theorem f266_49 : fetch 266 49 = some (.return_, 0, 0, 0) := rfl
theorem f266_50 : fetch 266 50 = some (.aload_n 0, 0, 0, 0) := rfl
theorem f266_51 : fetch 266 51 = some (.getfield 138, 12, 61, 2) := rfl
theorem f266_54 : fetch 266 54 = some (.iload_n 1, 0, 0, 0) := rfl
theorem f266_55 : fetch 266 55 = some (.iload_n 2, 0, 0, 0) := rfl
theorem f266_56 : fetch 266 56 = some (.iastore, 0, 0, 0) := rfl
theorem f266_57 : fetch 266 57 = some (.aload_n 0, 0, 0, 0) := rfl
theorem f266_58 : fetch 266 58 = some (.getfield 144, 12, 63, 2) := rfl
theorem f266_61 : fetch 266 61 = some (.iload_n 1, 0, 0, 0) := rfl
theorem f266_62 : fetch 266 62 = some (.aload_n 0, 0, 0, 0) := rfl
theorem f266_63 : fetch 266 63 = some (.getfield 427, 12, 67, 0) := rfl
theorem f266_66 : fetch 266 66 = some (.iastore, 0, 0, 0) := rfl
theorem f266_67 : fetch 266 67 = some (.aload_n 0, 0, 0, 0) := rfl
theorem f266_68 : fetch 266 68 = some (.iconst 0, 0, 0, 0) := rfl
theorem f266_69 : fetch 266 69 = some (.putfield 430, 12, 68, 0) := rfl
theorem f266_72 : fetch 266 72 = some (.aload_n 0, 0, 0, 0) := rfl
theorem f266_73 : fetch 266 73 = some (.iconst 0, 0, 0, 0) := rfl
theorem f266_74 : fetch 266 74 = some (.putfield 433, 12, 56, 0) := rfl
theorem f266_77 : fetch 266 77 = some (.iload_n 2, 0, 0, 0) := rfl
theorem f266_78 : fetch 266 78 = some (.iconst 2, 0, 0, 0) := rfl
theorem f266_79 : fetch 266 79 = some (.if_icmp .ne 7, 86, 0, 0) := rfl
theorem f266_82 : fetch 266 82 = some (.iconst 1, 0, 0, 0) := rfl
theorem f266_83 : fetch 266 83 = some (.goto 4, 87, 0, 0) := rfl
theorem f266_86 : fetch 266 86 = some (.iconst 0, 0, 0, 0) := rfl
theorem f266_87 : fetch 266 87 = some (.istore_n 3, 0, 0, 0) := rfl
theorem f266_88 : fetch 266 88 = some (.iload_n 3, 0, 0, 0) := rfl
theorem f266_89 : fetch 266 89 = some (.iconst 4, 0, 0, 0) := rfl
theorem f266_90 : fetch 266 90 = some (.if_icmp .eq 88, 178, 0, 0) := rfl
theorem f266_93 : fetch 266 93 = some (.aload_n 0, 0, 0, 0) := rfl
theorem f266_94 : fetch 266 94 = some (.getfield 381, 12, 55, 0) := rfl
theorem f266_97 : fetch 266 97 = some (.ifCond .ne 81, 178, 0, 0) := rfl
theorem f266_100 : fetch 266 100 = some (.iload_n 3, 0, 0, 0) := rfl
theorem f266_101 : fetch 266 101 = some (.tableswitch 69 0 2 #[27, 35, 51], 0, 0, 0) := rfl
theorem f266_128 : fetch 266 128 = some (.aload_n 0, 0, 0, 0) := rfl
theorem f266_129 : fetch 266 129 = some (.invokevirtual 510, 261, 0, 0) := rfl
theorem f266_132 : fetch 266 132 = some (.istore_n 3, 0, 0, 0) := rfl
theorem f266_133 : fetch 266 133 = some (.goto (-45), 88, 0, 0) := rfl
theorem f266_136 : fetch 266 136 = some (.aload_n 0, 0, 0, 0) := rfl
theorem f266_137 : fetch 266 137 = some (.invokevirtual 513, 259, 0, 0) := rfl
theorem f266_140 : fetch 266 140 = some (.ifCond .eq 7, 147, 0, 0) := rfl
theorem f266_143 : fetch 266 143 = some (.iconst 2, 0, 0, 0) := rfl
theorem f266_144 : fetch 266 144 = some (.goto 4, 148, 0, 0) := rfl
theorem f266_147 : fetch 266 147 = some (.iconst 1, 0, 0, 0) := rfl
theorem f266_148 : fetch 266 148 = some (.istore_n 3, 0, 0, 0) := rfl
theorem f266_149 : fetch 266 149 = some (.goto (-61), 88, 0, 0) := rfl
theorem f266_152 : fetch 266 152 = some (.aload_n 0, 0, 0, 0) := rfl
theorem f266_153 : fetch 266 153 = some (.iload_n 2, 0, 0, 0) := rfl
theorem f266_154 : fetch 266 154 = some (.iconst 2, 0, 0, 0) := rfl
theorem f266_155 : fetch 266 155 = some (.if_icmp .ne 7, 162, 0, 0) := rfl
theorem f266_158 : fetch 266 158 = some (.iconst 1, 0, 0, 0) := rfl
theorem f266_159 : fetch 266 159 = some (.goto 4, 163, 0, 0) := rfl
theorem f266_162 : fetch 266 162 = some (.iconst 0, 0, 0, 0) := rfl
theorem f266_163 : fetch 266 163 = some (.invokevirtual 517, 262, 1, 0) := rfl
theorem f266_166 : fetch 266 166 = some (.istore_n 3, 0, 0, 0) := rfl
theorem f266_167 : fetch 266 167 = some (.goto (-79), 88, 0, 0) := rfl
theorem f266_170 : fetch 266 170 = some (.aload_n 0, 0, 0, 0) := rfl
theorem f266_171 : fetch 266 171 = some (.invokevirtual 521, 264, 0, 0) := rfl
theorem f266_174 : fetch 266 174 = some (.istore_n 3, 0, 0, 0) := rfl
theorem f266_175 : fetch 266 175 = some (.goto (-87), 88, 0, 0) := rfl
theorem f266_178 : fetch 266 178 = some (.aload_n 0, 0, 0, 0) := rfl
theorem f266_179 : fetch 266 179 = some (.getfield 147, 12, 64, 2) := rfl
theorem f266_182 : fetch 266 182 = some (.iload_n 1, 0, 0, 0) := rfl
theorem f266_183 : fetch 266 183 = some (.aload_n 0, 0, 0, 0) := rfl
theorem f266_184 : fetch 266 184 = some (.getfield 427, 12, 67, 0) := rfl
theorem f266_187 : fetch 266 187 = some (.iastore, 0, 0, 0) := rfl
theorem f266_188 : fetch 266 188 = some (.aload_n 0, 0, 0, 0) := rfl
theorem f266_189 : fetch 266 189 = some (.getfield 135, 12, 60, 2) := rfl
theorem f266_192 : fetch 266 192 = some (.aload_n 0, 0, 0, 0) := rfl
theorem f266_193 : fetch 266 193 = some (.getfield 424, 12, 58, 0) := rfl
theorem f266_196 : fetch 266 196 = some (.dup2, 0, 0, 0) := rfl
theorem f266_197 : fetch 266 197 = some (.iaload, 0, 0, 0) := rfl
theorem f266_198 : fetch 266 198 = some (.iconst 1, 0, 0, 0) := rfl
theorem f266_199 : fetch 266 199 = some (.iadd, 0, 0, 0) := rfl
theorem f266_200 : fetch 266 200 = some (.iastore, 0, 0, 0) := rfl
theorem f266_201 : fetch 266 201 = some (.return_, 0, 0, 0) := rfl
set_option maxRecDepth 100000 in
set_option maxHeartbeats 4000000 in
theorem p266_j148_ok (d : Nat) (F : Nat) (K88 : HS → Int32 → Int32 → Int32 → Option (HS)) (hK88 : ∀ (h : HS) (w : WF h) (u1 : Int32) (u2 : Int32) (u3 : Int32) (r : HS), K88 h u1 u2 u3 = some r → ex (d + 3) 266 (88, [some (.ref (86)), some (.int (u1)), some (.int (u2)), some (.int (u3))], [], h) = some (none, r)) (h : HS) (w : WF h) (v1 : Int32) (v2 : Int32) (s0 : Int32) (r : HS) (hp : p266_j148 F K88 h v1 v2 s0 = some r) : ex (d + 3) 266 (148, [some (.ref (86)), some (.int (v1)), some (.int (v2)), none], [.int (s0)], h) = some (none, r) := by
  unfold p266_j148 at hp
  refine e_istore_n (ls2 := [some (.ref (86)), some (.int (v1)), some (.int (v2)), some (.int (s0))]) f266_148 (Nat.le_of_ble_eq_true rfl) rfl ?_
  refine e_goto f266_149 ?_
  refine ex_weak (ls := [some (.ref (86)), some (.int (v1)), some (.int (v2)), some (.int (s0))]) (le2_ok ⟨Or.inr rfl, Or.inr rfl, Or.inr rfl, Or.inr rfl, trivial⟩) ?_
  exact hK88 (h) (w) (v1) (v2) (s0) _ hp
set_option maxRecDepth 100000 in
set_option maxHeartbeats 4000000 in
theorem p266_j148_w (F : Nat) (K88 : HS → Int32 → Int32 → Int32 → Option (HS)) (hK88 : ∀ (h : HS) (w : WF h) (u1 : Int32) (u2 : Int32) (u3 : Int32) (r : HS), K88 h u1 u2 u3 = some r → WF r) (h : HS) (w : WF h) (v1 : Int32) (v2 : Int32) (s0 : Int32) (r : HS) (hp : p266_j148 F K88 h v1 v2 s0 = some r) : WF r := by
  unfold p266_j148 at hp
  exact hK88 (h) (w) (v1) (v2) (s0) _ hp
set_option maxRecDepth 100000 in
set_option maxHeartbeats 4000000 in
theorem p266_j163_ok (d : Nat) (F : Nat) (K88 : HS → Int32 → Int32 → Int32 → Option (HS)) (hK88 : ∀ (h : HS) (w : WF h) (u1 : Int32) (u2 : Int32) (u3 : Int32) (r : HS), K88 h u1 u2 u3 = some r → ex (d + 3) 266 (88, [some (.ref (86)), some (.int (u1)), some (.int (u2)), some (.int (u3))], [], h) = some (none, r)) (h : HS) (w : WF h) (v1 : Int32) (v2 : Int32) (s0 : Int32) (r : HS) (hp : p266_j163 F K88 h v1 v2 s0 = some r) : ex (d + 3) 266 (163, [some (.ref (86)), some (.int (v1)), some (.int (v2)), none], [.int (s0), .ref (86)], h) = some (none, r) := by
  unfold p266_j163 at hp
  obtain ⟨r33, hr34, hp⟩ := bind_some hp
  try dsimp only at hp
  refine e_callV (st := []) (o := 86) (as := [.int (s0)]) f266_163 (by decide) rfl rfl (Nat.le_of_ble_eq_true rfl) (WF.t w 86 (by decide)) (Nat.le_of_ble_eq_true rfl) (p262_ok d F (h) w (s0) r33 hr34) ?_
  show ex _ 266 (166, [some (.ref (86)), some (.int (v1)), some (.int (v2)), none], [.int (r33.1)], r33.2) = _
  refine e_istore_n (ls2 := [some (.ref (86)), some (.int (v1)), some (.int (v2)), some (.int (r33.1))]) f266_166 (Nat.le_of_ble_eq_true rfl) rfl ?_
  refine e_goto f266_167 ?_
  refine ex_weak (ls := [some (.ref (86)), some (.int (v1)), some (.int (v2)), some (.int (r33.1))]) (le2_ok ⟨Or.inr rfl, Or.inr rfl, Or.inr rfl, Or.inr rfl, trivial⟩) ?_
  exact hK88 (r33.2) ((p262_w F (h) w (s0)  r33 hr34)) (v1) (v2) (r33.1) _ hp
set_option maxRecDepth 100000 in
set_option maxHeartbeats 4000000 in
theorem p266_j163_w (F : Nat) (K88 : HS → Int32 → Int32 → Int32 → Option (HS)) (hK88 : ∀ (h : HS) (w : WF h) (u1 : Int32) (u2 : Int32) (u3 : Int32) (r : HS), K88 h u1 u2 u3 = some r → WF r) (h : HS) (w : WF h) (v1 : Int32) (v2 : Int32) (s0 : Int32) (r : HS) (hp : p266_j163 F K88 h v1 v2 s0 = some r) : WF r := by
  unfold p266_j163 at hp
  obtain ⟨r33, hr34, hp⟩ := bind_some hp
  try dsimp only at hp
  exact hK88 (r33.2) ((p262_w F (h) w (s0)  r33 hr34)) (v1) (v2) (r33.1) _ hp
set_option maxRecDepth 100000 in
set_option maxHeartbeats 4000000 in
theorem p266_j178_ok (d : Nat) (F : Nat) (h : HS) (w : WF h) (v1 : Int32) (r : HS) (hp : p266_j178 F h v1 = some r) : ex (d + 3) 266 (178, [some (.ref (86)), some (.int (v1)), none, none], [], h) = some (none, r) := by
  unfold p266_j178 at hp
  refine e_aload_n f266_178 rfl ?_
  refine e_getR f266_179 (WF.t w 86 (by decide)) rfl (WF.r (q := 132) w 86 64 (by decide)) ?_
  refine e_iload_n f266_182 rfl ?_
  refine e_aload_n f266_183 rfl ?_
  refine e_getI f266_184 (WF.t w 86 (by decide)) (by decide) ?_
  by_cases hg27 : (v1) < (0 : Int32) ∨ 240 ≤ (v1).toNatClampNeg
  · rw [if_pos hg27] at hp; cases hp
  rw [if_neg hg27] at hp
  refine e_iastore f266_187 (WF.t w 132 (by decide)) (WF.n w 132 (by decide)) hg27 ?_
  refine e_aload_n f266_188 rfl ?_
  refine e_getR f266_189 (WF.t w 86 (by decide)) rfl (WF.r (q := 128) w 86 60 (by decide)) ?_
  refine e_aload_n f266_192 rfl ?_
  refine e_getI f266_193 (WF.t w 86 (by decide)) (by decide) ?_
  refine e_dup2 f266_196 rfl rfl ?_
  by_cases hg28 : (hI (hsI (h) (132) (v1).toNatClampNeg (hI (h) (86) 67)) (86) 58) < (0 : Int32) ∨ 20 ≤ (hI (hsI (h) (132) (v1).toNatClampNeg (hI (h) (86) 67)) (86) 58).toNatClampNeg
  · rw [if_pos hg28] at hp; cases hp
  rw [if_neg hg28] at hp
  refine e_iaload f266_197 (Or.inl (WF.t w 128 (by decide))) (WF.n w 128 (by decide)) hg28 ?_
  refine e_iconst (v := 1) f266_198 (by decide) ?_
  refine e_iadd f266_199 ?_
  by_cases hg29 : (hI (hsI (h) (132) (v1).toNatClampNeg (hI (h) (86) 67)) (86) 58) < (0 : Int32) ∨ 20 ≤ (hI (hsI (h) (132) (v1).toNatClampNeg (hI (h) (86) 67)) (86) 58).toNatClampNeg
  · rw [if_pos hg29] at hp; cases hp
  rw [if_neg hg29] at hp
  refine e_iastore f266_200 (WF.t w 128 (by decide)) (WF.n w 128 (by decide)) hg29 ?_
  obtain ⟨h30, e31, hp⟩ := bind_some hp
  try dsimp only at hp
  have e31 := Option.some.inj e31
  have w32 : WF h30 := e31 ▸ w
  rw [e31]
  have hp := Option.some.inj hp
  subst hp
  exact e_return f266_201
set_option maxRecDepth 100000 in
set_option maxHeartbeats 4000000 in
theorem p266_j178_w (F : Nat) (h : HS) (w : WF h) (v1 : Int32) (r : HS) (hp : p266_j178 F h v1 = some r) : WF r := by
  unfold p266_j178 at hp
  by_cases hg27 : (v1) < (0 : Int32) ∨ 240 ≤ (v1).toNatClampNeg
  · rw [if_pos hg27] at hp; cases hp
  rw [if_neg hg27] at hp
  by_cases hg28 : (hI (hsI (h) (132) (v1).toNatClampNeg (hI (h) (86) 67)) (86) 58) < (0 : Int32) ∨ 20 ≤ (hI (hsI (h) (132) (v1).toNatClampNeg (hI (h) (86) 67)) (86) 58).toNatClampNeg
  · rw [if_pos hg28] at hp; cases hp
  rw [if_neg hg28] at hp
  by_cases hg29 : (hI (hsI (h) (132) (v1).toNatClampNeg (hI (h) (86) 67)) (86) 58) < (0 : Int32) ∨ 20 ≤ (hI (hsI (h) (132) (v1).toNatClampNeg (hI (h) (86) 67)) (86) 58).toNatClampNeg
  · rw [if_pos hg29] at hp; cases hp
  rw [if_neg hg29] at hp
  obtain ⟨h30, e31, hp⟩ := bind_some hp
  try dsimp only at hp
  have e31 := Option.some.inj e31
  have w32 : WF h30 := e31 ▸ w
  have hp := Option.some.inj hp
  subst hp
  exact (w32)
set_option maxRecDepth 100000 in
set_option maxHeartbeats 4000000 in
theorem p266_L88_ok (d : Nat) (F : Nat) : ∀ (n : Nat) (h : HS) (w : WF h) (v1 : Int32) (v2 : Int32) (v3 : Int32) (r : HS), p266_L88 F n h v1 v2 v3 = some r → ex (d + 3) 266 (88, [some (.ref (86)), some (.int (v1)), some (.int (v2)), some (.int (v3))], [], h) = some (none, r) := by
  intro n
  induction n with
  | zero => intro h w v1 v2 v3 r hp; cases hp
  | succ n ih =>
    intro h w v1 v2 v3 r hp
    unfold p266_L88 at hp
    refine e_iload_n f266_88 rfl ?_
    refine e_iconst (v := 4) f266_89 (by decide) ?_
    by_cases hc13 : (v3) = ((4) : Int32)
    · rw [if_pos hc13] at hp
      refine e_icmp_eq_t f266_90 hc13 ?_
      refine ex_weak (ls := [some (.ref (86)), some (.int (v1)), none, none]) (le2_ok ⟨Or.inr rfl, Or.inr rfl, Or.inl rfl, Or.inl rfl, trivial⟩) ?_
      exact p266_j178_ok d F (h) (w) (v1) _ hp
    · rw [if_neg hc13] at hp
      refine e_icmp_eq_f f266_90 hc13 ?_
      refine e_aload_n f266_93 rfl ?_
      refine e_getI f266_94 (WF.t w 86 (by decide)) (by decide) ?_
      by_cases hc14 : (hI (h) (86) 55) = (0 : Int32)
      · rw [if_pos hc14] at hp
        refine e_if_ne_f f266_97 hc14 ?_
        refine e_iload_n f266_100 rfl ?_
        by_cases hc15 : (v3) = (0 : Int32)
        · rw [if_pos hc15] at hp
          refine e_sw (t := 128) f266_101 (by rw [hc15]; decide) (by rw [hc15]; decide) ?_
          refine e_aload_n f266_128 rfl ?_
          obtain ⟨r16, hr17, hp⟩ := bind_some hp
          try dsimp only at hp
          refine e_callV (st := []) (o := 86) (as := []) f266_129 (by decide) rfl rfl (Nat.le_of_ble_eq_true rfl) (WF.t w 86 (by decide)) (Nat.le_of_ble_eq_true rfl) (p261_ok d F (h) w r16 hr17) ?_
          show ex _ 266 (132, [some (.ref (86)), some (.int (v1)), some (.int (v2)), some (.int (v3))], [.int (r16.1)], r16.2) = _
          refine e_istore_n (ls2 := [some (.ref (86)), some (.int (v1)), some (.int (v2)), some (.int (r16.1))]) f266_132 (Nat.le_of_ble_eq_true rfl) rfl ?_
          refine e_goto f266_133 ?_
          refine ex_weak (ls := [some (.ref (86)), some (.int (v1)), some (.int (v2)), some (.int (r16.1))]) (le2_ok ⟨Or.inr rfl, Or.inr rfl, Or.inr rfl, Or.inr rfl, trivial⟩) ?_
          exact ih (r16.2) ((p261_w F (h) w  r16 hr17)) (v1) (v2) (r16.1) _ hp
        rw [if_neg hc15] at hp
        by_cases hc18 : (v3) = (1 : Int32)
        · rw [if_pos hc18] at hp
          refine e_sw (t := 136) f266_101 (by rw [hc18]; decide) (by rw [hc18]; decide) ?_
          refine e_aload_n f266_136 rfl ?_
          obtain ⟨r19, hr20, hp⟩ := bind_some hp
          try dsimp only at hp
          refine e_callV (st := []) (o := 86) (as := []) f266_137 (by decide) rfl rfl (Nat.le_of_ble_eq_true rfl) (WF.t w 86 (by decide)) (Nat.le_of_ble_eq_true rfl) (p259_ok d F (h) w r19 hr20) ?_
          show ex _ 266 (140, [some (.ref (86)), some (.int (v1)), some (.int (v2)), some (.int (v3))], [.int (r19.1)], r19.2) = _
          by_cases hc21 : (r19.1) = (0 : Int32)
          · rw [if_pos hc21] at hp
            refine e_if_eq_t f266_140 hc21 ?_
            refine e_iconst (v := 1) f266_147 (by decide) ?_
            refine ex_weak (ls := [some (.ref (86)), some (.int (v1)), some (.int (v2)), none]) (le2_ok ⟨Or.inr rfl, Or.inr rfl, Or.inr rfl, Or.inl rfl, trivial⟩) ?_
            exact p266_j148_ok d F ((p266_L88 F n)) (ih) (r19.2) ((p259_w F (h) w  r19 hr20)) (v1) (v2) (1) _ hp
          · rw [if_neg hc21] at hp
            refine e_if_eq_f f266_140 hc21 ?_
            refine e_iconst (v := 2) f266_143 (by decide) ?_
            refine e_goto f266_144 ?_
            refine ex_weak (ls := [some (.ref (86)), some (.int (v1)), some (.int (v2)), none]) (le2_ok ⟨Or.inr rfl, Or.inr rfl, Or.inr rfl, Or.inl rfl, trivial⟩) ?_
            exact p266_j148_ok d F ((p266_L88 F n)) (ih) (r19.2) ((p259_w F (h) w  r19 hr20)) (v1) (v2) (2) _ hp
        rw [if_neg hc18] at hp
        by_cases hc22 : (v3) = (2 : Int32)
        · rw [if_pos hc22] at hp
          refine e_sw (t := 152) f266_101 (by rw [hc22]; decide) (by rw [hc22]; decide) ?_
          refine e_aload_n f266_152 rfl ?_
          refine e_iload_n f266_153 rfl ?_
          refine e_iconst (v := 2) f266_154 (by decide) ?_
          by_cases hc23 : (v2) = ((2) : Int32)
          · rw [if_pos hc23] at hp
            refine e_icmp_ne_f f266_155 hc23 ?_
            refine e_iconst (v := 1) f266_158 (by decide) ?_
            refine e_goto f266_159 ?_
            refine ex_weak (ls := [some (.ref (86)), some (.int (v1)), some (.int (v2)), none]) (le2_ok ⟨Or.inr rfl, Or.inr rfl, Or.inr rfl, Or.inl rfl, trivial⟩) ?_
            exact p266_j163_ok d F ((p266_L88 F n)) (ih) (h) (w) (v1) (v2) (1) _ hp
          · rw [if_neg hc23] at hp
            refine e_icmp_ne_t f266_155 hc23 ?_
            refine e_iconst (v := 0) f266_162 (by decide) ?_
            refine ex_weak (ls := [some (.ref (86)), some (.int (v1)), some (.int (v2)), none]) (le2_ok ⟨Or.inr rfl, Or.inr rfl, Or.inr rfl, Or.inl rfl, trivial⟩) ?_
            exact p266_j163_ok d F ((p266_L88 F n)) (ih) (h) (w) (v1) (v2) (0) _ hp
        rw [if_neg hc22] at hp
        have ho26 := sw_out (x := v3) 0 2 (fun j h1 h2 => by
          rcases (show j = 0 ∨ j = 1 ∨ j = 2 by omega) with rfl | rfl | rfl
          · exact i32_ne hc15 (by decide)
          · exact i32_ne hc18 (by decide)
          · exact i32_ne hc22 (by decide))
        refine e_sw (t := 170) f266_101 ⟨by rw [swTo, if_pos ho26]; decide, by decide⟩ (by rw [swTo, if_pos ho26]; decide) ?_
        refine e_aload_n f266_170 rfl ?_
        obtain ⟨r24, hr25, hp⟩ := bind_some hp
        try dsimp only at hp
        refine e_callV (st := []) (o := 86) (as := []) f266_171 (by decide) rfl rfl (Nat.le_of_ble_eq_true rfl) (WF.t w 86 (by decide)) (Nat.le_of_ble_eq_true rfl) (p264_ok d F (h) w r24 hr25) ?_
        show ex _ 266 (174, [some (.ref (86)), some (.int (v1)), some (.int (v2)), some (.int (v3))], [.int (r24.1)], r24.2) = _
        refine e_istore_n (ls2 := [some (.ref (86)), some (.int (v1)), some (.int (v2)), some (.int (r24.1))]) f266_174 (Nat.le_of_ble_eq_true rfl) rfl ?_
        refine e_goto f266_175 ?_
        refine ex_weak (ls := [some (.ref (86)), some (.int (v1)), some (.int (v2)), some (.int (r24.1))]) (le2_ok ⟨Or.inr rfl, Or.inr rfl, Or.inr rfl, Or.inr rfl, trivial⟩) ?_
        exact ih (r24.2) ((p264_w F (h) w  r24 hr25)) (v1) (v2) (r24.1) _ hp
      · rw [if_neg hc14] at hp
        refine e_if_ne_t f266_97 hc14 ?_
        refine ex_weak (ls := [some (.ref (86)), some (.int (v1)), none, none]) (le2_ok ⟨Or.inr rfl, Or.inr rfl, Or.inl rfl, Or.inl rfl, trivial⟩) ?_
        exact p266_j178_ok d F (h) (w) (v1) _ hp
set_option maxRecDepth 100000 in
set_option maxHeartbeats 4000000 in
theorem p266_L88_w (F : Nat) : ∀ (n : Nat) (h : HS) (w : WF h) (v1 : Int32) (v2 : Int32) (v3 : Int32) (r : HS), p266_L88 F n h v1 v2 v3 = some r → WF r := by
  intro n
  induction n with
  | zero => intro h w v1 v2 v3 r hp; cases hp
  | succ n ih =>
    intro h w v1 v2 v3 r hp
    unfold p266_L88 at hp
    by_cases hc13 : (v3) = ((4) : Int32)
    · rw [if_pos hc13] at hp
      exact p266_j178_w F (h) (w) (v1) _ hp
    · rw [if_neg hc13] at hp
      by_cases hc14 : (hI (h) (86) 55) = (0 : Int32)
      · rw [if_pos hc14] at hp
        by_cases hc15 : (v3) = (0 : Int32)
        · rw [if_pos hc15] at hp
          obtain ⟨r16, hr17, hp⟩ := bind_some hp
          try dsimp only at hp
          exact ih (r16.2) ((p261_w F (h) w  r16 hr17)) (v1) (v2) (r16.1) _ hp
        rw [if_neg hc15] at hp
        by_cases hc18 : (v3) = (1 : Int32)
        · rw [if_pos hc18] at hp
          obtain ⟨r19, hr20, hp⟩ := bind_some hp
          try dsimp only at hp
          by_cases hc21 : (r19.1) = (0 : Int32)
          · rw [if_pos hc21] at hp
            exact p266_j148_w F ((p266_L88 F n)) (ih) (r19.2) ((p259_w F (h) w  r19 hr20)) (v1) (v2) (1) _ hp
          · rw [if_neg hc21] at hp
            exact p266_j148_w F ((p266_L88 F n)) (ih) (r19.2) ((p259_w F (h) w  r19 hr20)) (v1) (v2) (2) _ hp
        rw [if_neg hc18] at hp
        by_cases hc22 : (v3) = (2 : Int32)
        · rw [if_pos hc22] at hp
          by_cases hc23 : (v2) = ((2) : Int32)
          · rw [if_pos hc23] at hp
            exact p266_j163_w F ((p266_L88 F n)) (ih) (h) (w) (v1) (v2) (1) _ hp
          · rw [if_neg hc23] at hp
            exact p266_j163_w F ((p266_L88 F n)) (ih) (h) (w) (v1) (v2) (0) _ hp
        rw [if_neg hc22] at hp
        obtain ⟨r24, hr25, hp⟩ := bind_some hp
        try dsimp only at hp
        exact ih (r24.2) ((p264_w F (h) w  r24 hr25)) (v1) (v2) (r24.1) _ hp
      · rw [if_neg hc14] at hp
        exact p266_j178_w F (h) (w) (v1) _ hp
set_option maxRecDepth 100000 in
set_option maxHeartbeats 4000000 in
theorem p266_j87_ok (d : Nat) (F : Nat) (h : HS) (w : WF h) (v1 : Int32) (v2 : Int32) (s0 : Int32) (r : HS) (hp : p266_j87 F h v1 v2 s0 = some r) : ex (d + 3) 266 (87, [some (.ref (86)), some (.int (v1)), some (.int (v2)), none], [.int (s0)], h) = some (none, r) := by
  unfold p266_j87 at hp
  refine e_istore_n (ls2 := [some (.ref (86)), some (.int (v1)), some (.int (v2)), some (.int (s0))]) f266_87 (Nat.le_of_ble_eq_true rfl) rfl ?_
  refine ex_weak (ls := [some (.ref (86)), some (.int (v1)), some (.int (v2)), some (.int (s0))]) (le2_ok ⟨Or.inr rfl, Or.inr rfl, Or.inr rfl, Or.inr rfl, trivial⟩) ?_
  exact p266_L88_ok d F F (h) (w) (v1) (v2) (s0) _ hp
set_option maxRecDepth 100000 in
set_option maxHeartbeats 4000000 in
theorem p266_j87_w (F : Nat) (h : HS) (w : WF h) (v1 : Int32) (v2 : Int32) (s0 : Int32) (r : HS) (hp : p266_j87 F h v1 v2 s0 = some r) : WF r := by
  unfold p266_j87 at hp
  exact p266_L88_w F F (h) (w) (v1) (v2) (s0) _ hp
set_option maxRecDepth 100000 in
set_option maxHeartbeats 4000000 in
theorem p266_j34_ok (d : Nat) (F : Nat) (h : HS) (w : WF h) (s0 : Int32) (s1 : Int32) (r : HS) (hp : p266_j34 F h s0 s1 = some r) : ex (d + 3) 266 (34, [some (.ref (86)), none, none, none], [.int (s0), .int (s1)], h) = some (none, r) := by
  unfold p266_j34 at hp
  refine e_iadd f266_34 ?_
  refine e_istore_n (ls2 := [some (.ref (86)), some (.int ((s1) + (s0))), none, none]) f266_35 (Nat.le_of_ble_eq_true rfl) rfl ?_
  refine e_aload_n f266_36 rfl ?_
  refine e_iload_n f266_37 rfl ?_
  obtain ⟨r4, hr5, hp⟩ := bind_some hp
  try dsimp only at hp
  refine e_callV (st := []) (o := 86) (as := [.int ((s1) + (s0))]) f266_38 (by decide) rfl rfl (Nat.le_of_ble_eq_true rfl) (WF.t w 86 (by decide)) (Nat.le_of_ble_eq_true rfl) (p265_ok d F (h) w ((s1) + (s0)) r4 hr5) ?_
  show ex _ 266 (41, [some (.ref (86)), some (.int ((s1) + (s0))), none, none], [.int (r4.1)], r4.2) = _
  refine e_istore_n (ls2 := [some (.ref (86)), some (.int ((s1) + (s0))), some (.int (r4.1)), none]) f266_41 (Nat.le_of_ble_eq_true rfl) rfl ?_
  refine e_aload_n f266_42 rfl ?_
  refine e_getI f266_43 (WF.t (p265_w F (h) w ((s1) + (s0))  r4 hr5) 86 (by decide)) (by decide) ?_
  by_cases hc6 : (0 : Int32) < (hI (r4.2) (86) 55)
  · rw [if_pos hc6] at hp
    refine e_if_le_f f266_46 hc6 ?_
    have hp := Option.some.inj hp
    subst hp
    exact e_return f266_49
  · rw [if_neg hc6] at hp
    refine e_if_le_t f266_46 hc6 ?_
    refine e_aload_n f266_50 rfl ?_
    refine e_getR f266_51 (WF.t (p265_w F (h) w ((s1) + (s0))  r4 hr5) 86 (by decide)) rfl (WF.r (q := 129) (p265_w F (h) w ((s1) + (s0))  r4 hr5) 86 61 (by decide)) ?_
    refine e_iload_n f266_54 rfl ?_
    refine e_iload_n f266_55 rfl ?_
    by_cases hg7 : ((s1) + (s0)) < (0 : Int32) ∨ 240 ≤ ((s1) + (s0)).toNatClampNeg
    · rw [if_pos hg7] at hp; cases hp
    rw [if_neg hg7] at hp
    refine e_iastore f266_56 (WF.t (p265_w F (h) w ((s1) + (s0))  r4 hr5) 129 (by decide)) (WF.n (p265_w F (h) w ((s1) + (s0))  r4 hr5) 129 (by decide)) hg7 ?_
    refine e_aload_n f266_57 rfl ?_
    refine e_getR f266_58 (WF.t (p265_w F (h) w ((s1) + (s0))  r4 hr5) 86 (by decide)) rfl (WF.r (q := 131) (p265_w F (h) w ((s1) + (s0))  r4 hr5) 86 63 (by decide)) ?_
    refine e_iload_n f266_61 rfl ?_
    refine e_aload_n f266_62 rfl ?_
    refine e_getI f266_63 (WF.t (p265_w F (h) w ((s1) + (s0))  r4 hr5) 86 (by decide)) (by decide) ?_
    by_cases hg8 : ((s1) + (s0)) < (0 : Int32) ∨ 240 ≤ ((s1) + (s0)).toNatClampNeg
    · rw [if_pos hg8] at hp; cases hp
    rw [if_neg hg8] at hp
    refine e_iastore f266_66 (WF.t (p265_w F (h) w ((s1) + (s0))  r4 hr5) 131 (by decide)) (WF.n (p265_w F (h) w ((s1) + (s0))  r4 hr5) 131 (by decide)) hg8 ?_
    obtain ⟨h9, e10, hp⟩ := bind_some hp
    try dsimp only at hp
    have e10 := Option.some.inj e10
    have w11 : WF h9 := e10 ▸ (p265_w F (h) w ((s1) + (s0))  r4 hr5)
    rw [e10]
    refine e_aload_n f266_67 rfl ?_
    refine e_iconst (v := 0) f266_68 (by decide) ?_
    refine e_putI f266_69 (WF.t w11 86 (by decide)) rfl ?_
    refine e_aload_n f266_72 rfl ?_
    refine e_iconst (v := 0) f266_73 (by decide) ?_
    refine e_putI f266_74 (WF.t w11 86 (by decide)) rfl ?_
    refine e_iload_n f266_77 rfl ?_
    refine e_iconst (v := 2) f266_78 (by decide) ?_
    by_cases hc12 : (r4.1) = ((2) : Int32)
    · rw [if_pos hc12] at hp
      refine e_icmp_ne_f f266_79 hc12 ?_
      refine e_iconst (v := 1) f266_82 (by decide) ?_
      refine e_goto f266_83 ?_
      refine ex_weak (ls := [some (.ref (86)), some (.int ((s1) + (s0))), some (.int (r4.1)), none]) (le2_ok ⟨Or.inr rfl, Or.inr rfl, Or.inr rfl, Or.inl rfl, trivial⟩) ?_
      exact p266_j87_ok d F (hsI (hsI (h9) (86) 68 (0)) (86) 56 (0)) (w11) ((s1) + (s0)) (r4.1) (1) _ hp
    · rw [if_neg hc12] at hp
      refine e_icmp_ne_t f266_79 hc12 ?_
      refine e_iconst (v := 0) f266_86 (by decide) ?_
      refine ex_weak (ls := [some (.ref (86)), some (.int ((s1) + (s0))), some (.int (r4.1)), none]) (le2_ok ⟨Or.inr rfl, Or.inr rfl, Or.inr rfl, Or.inl rfl, trivial⟩) ?_
      exact p266_j87_ok d F (hsI (hsI (h9) (86) 68 (0)) (86) 56 (0)) (w11) ((s1) + (s0)) (r4.1) (0) _ hp
set_option maxRecDepth 100000 in
set_option maxHeartbeats 4000000 in
theorem p266_j34_w (F : Nat) (h : HS) (w : WF h) (s0 : Int32) (s1 : Int32) (r : HS) (hp : p266_j34 F h s0 s1 = some r) : WF r := by
  unfold p266_j34 at hp
  obtain ⟨r4, hr5, hp⟩ := bind_some hp
  try dsimp only at hp
  by_cases hc6 : (0 : Int32) < (hI (r4.2) (86) 55)
  · rw [if_pos hc6] at hp
    have hp := Option.some.inj hp
    subst hp
    exact ((p265_w F (h) w ((s1) + (s0))  r4 hr5))
  · rw [if_neg hc6] at hp
    by_cases hg7 : ((s1) + (s0)) < (0 : Int32) ∨ 240 ≤ ((s1) + (s0)).toNatClampNeg
    · rw [if_pos hg7] at hp; cases hp
    rw [if_neg hg7] at hp
    by_cases hg8 : ((s1) + (s0)) < (0 : Int32) ∨ 240 ≤ ((s1) + (s0)).toNatClampNeg
    · rw [if_pos hg8] at hp; cases hp
    rw [if_neg hg8] at hp
    obtain ⟨h9, e10, hp⟩ := bind_some hp
    try dsimp only at hp
    have e10 := Option.some.inj e10
    have w11 : WF h9 := e10 ▸ (p265_w F (h) w ((s1) + (s0))  r4 hr5)
    by_cases hc12 : (r4.1) = ((2) : Int32)
    · rw [if_pos hc12] at hp
      exact p266_j87_w F (hsI (hsI (h9) (86) 68 (0)) (86) 56 (0)) (w11) ((s1) + (s0)) (r4.1) (1) _ hp
    · rw [if_neg hc12] at hp
      exact p266_j87_w F (hsI (hsI (h9) (86) 68 (0)) (86) 56 (0)) (w11) ((s1) + (s0)) (r4.1) (0) _ hp
set_option maxRecDepth 100000 in
set_option maxHeartbeats 4000000 in
theorem p266_ok (d : Nat) (F : Nat) (h : HS) (w : WF h) (r : HS) (hp : p266 F h = some r) : ex (d + 3) 266 (ent 266 [.ref (86)] h) = some (none, r) := by
  rw [show ent 266 [.ref (86)] h = (0, [some (.ref (86)), none, none, none], [], h) from by  rfl]
  refine ex_weak (ls := [some (.ref (86)), none, none, none]) (le2_ok ⟨Or.inr rfl, Or.inr rfl, Or.inr rfl, Or.inr rfl, trivial⟩) ?_
  unfold p266 at hp
  refine e_bipush (v := 12) f266_0 (by decide) ?_
  refine e_aload_n f266_2 rfl ?_
  refine e_getI f266_3 (WF.t w 86 (by decide)) (by decide) ?_
  refine e_imul f266_6 ?_
  refine e_aload_n f266_7 rfl ?_
  refine e_getR f266_8 (WF.t w 86 (by decide)) rfl (WF.r (q := 128) w 86 60 (by decide)) ?_
  refine e_aload_n f266_11 rfl ?_
  refine e_getI f266_12 (WF.t w 86 (by decide)) (by decide) ?_
  by_cases hg1 : (hI (h) (86) 58) < (0 : Int32) ∨ 20 ≤ (hI (h) (86) 58).toNatClampNeg
  · rw [if_pos hg1] at hp; cases hp
  rw [if_neg hg1] at hp
  refine e_iaload f266_15 (Or.inl (WF.t w 128 (by decide))) (WF.n w 128 (by decide)) hg1 ?_
  refine e_bipush (v := 12) f266_16 (by decide) ?_
  by_cases hc2 : (hI (h) (128) (hI (h) (86) 58).toNatClampNeg) < ((12) : Int32)
  · rw [if_pos hc2] at hp
    refine e_icmp_ge_f f266_18 hc2 ?_
    refine e_aload_n f266_21 rfl ?_
    refine e_getR f266_22 (WF.t w 86 (by decide)) rfl (WF.r (q := 128) w 86 60 (by decide)) ?_
    refine e_aload_n f266_25 rfl ?_
    refine e_getI f266_26 (WF.t w 86 (by decide)) (by decide) ?_
    by_cases hg3 : (hI (h) (86) 58) < (0 : Int32) ∨ 20 ≤ (hI (h) (86) 58).toNatClampNeg
    · rw [if_pos hg3] at hp; cases hp
    rw [if_neg hg3] at hp
    refine e_iaload f266_29 (Or.inl (WF.t w 128 (by decide))) (WF.n w 128 (by decide)) hg3 ?_
    refine e_goto f266_30 ?_
    refine ex_weak (ls := [some (.ref (86)), none, none, none]) (le2_ok ⟨Or.inr rfl, Or.inl rfl, Or.inl rfl, Or.inl rfl, trivial⟩) ?_
    exact p266_j34_ok d F (h) (w) (hI (h) (128) (hI (h) (86) 58).toNatClampNeg) ((12) * (hI (h) (86) 58)) _ hp
  · rw [if_neg hc2] at hp
    refine e_icmp_ge_t f266_18 hc2 ?_
    refine e_iconst (v := 0) f266_33 (by decide) ?_
    refine ex_weak (ls := [some (.ref (86)), none, none, none]) (le2_ok ⟨Or.inr rfl, Or.inl rfl, Or.inl rfl, Or.inl rfl, trivial⟩) ?_
    exact p266_j34_ok d F (h) (w) (0) ((12) * (hI (h) (86) 58)) _ hp
set_option maxRecDepth 100000 in
set_option maxHeartbeats 4000000 in
theorem p266_w (F : Nat) (h : HS) (w : WF h) (r : HS) (hp : p266 F h = some r) : WF r := by
  unfold p266 at hp
  by_cases hg1 : (hI (h) (86) 58) < (0 : Int32) ∨ 20 ≤ (hI (h) (86) 58).toNatClampNeg
  · rw [if_pos hg1] at hp; cases hp
  rw [if_neg hg1] at hp
  by_cases hc2 : (hI (h) (128) (hI (h) (86) 58).toNatClampNeg) < ((12) : Int32)
  · rw [if_pos hc2] at hp
    by_cases hg3 : (hI (h) (86) 58) < (0 : Int32) ∨ 20 ≤ (hI (h) (86) 58).toNatClampNeg
    · rw [if_pos hg3] at hp; cases hp
    rw [if_neg hg3] at hp
    exact p266_j34_w F (h) (w) (hI (h) (128) (hI (h) (86) 58).toNatClampNeg) ((12) * (hI (h) (86) 58)) _ hp
  · rw [if_neg hc2] at hp
    exact p266_j34_w F (h) (w) (0) ((12) * (hI (h) (86) 58)) _ hp
theorem f267_0 : fetch 267 0 = some (.aload_n 0, 0, 0, 0) := rfl
theorem f267_1 : fetch 267 1 = some (.getfield 424, 12, 58, 0) := rfl
theorem f267_4 : fetch 267 4 = some (.bipush 20, 0, 0, 0) := rfl
theorem f267_6 : fetch 267 6 = some (.if_icmp .eq 17, 23, 0, 0) := rfl
theorem f267_9 : fetch 267 9 = some (.iload_n 1, 0, 0, 0) := rfl
theorem f267_10 : fetch 267 10 = some (.aload_n 0, 0, 0, 0) := rfl
theorem f267_11 : fetch 267 11 = some (.getfield 244, 12, 1, 0) := rfl
theorem f267_14 : fetch 267 14 = some (.sipush 3999, 0, 0, 0) := rfl
theorem f267_17 : fetch 267 17 = some (.invokestatic 240, 187, 3, 1) := rfl
theorem f267_20 : fetch 267 20 = some (.ifCond .ne 5, 25, 0, 0) := rfl
theorem f267_23 : fetch 267 23 = some (.iconst (-1), 0, 0, 0) := rfl
theorem f267_24 : fetch 267 24 = some (.ireturn, 0, 0, 0) := rfl
theorem f267_25 : fetch 267 25 = some (.aload_n 0, 0, 0, 0) := rfl
theorem f267_26 : fetch 267 26 = some (.iconst 0, 0, 0, 0) := rfl
theorem f267_27 : fetch 267 27 = some (.putfield 384, 12, 53, 0) := rfl
theorem f267_30 : fetch 267 30 = some (.aload_n 0, 0, 0, 0) := rfl
theorem f267_31 : fetch 267 31 = some (.iconst 0, 0, 0, 0) := rfl
theorem f267_32 : fetch 267 32 = some (.putfield 381, 12, 55, 0) := rfl
theorem f267_35 : fetch 267 35 = some (.aload_n 0, 0, 0, 0) := rfl
theorem f267_36 : fetch 267 36 = some (.iconst 0, 0, 0, 0) := rfl
theorem f267_37 : fetch 267 37 = some (.putfield 442, 12, 57, 0) := rfl
theorem f267_40 : fetch 267 40 = some (.aload_n 0, 0, 0, 0) := rfl
theorem f267_41 : fetch 267 41 = some (.iconst 0, 0, 0, 0) := rfl
theorem f267_42 : fetch 267 42 = some (.putfield 427, 12, 67, 0) := rfl
theorem f267_45 : fetch 267 45 = some (.aload_n 0, 0, 0, 0) := rfl
theorem f267_46 : fetch 267 46 = some (.getfield 135, 12, 60, 2) := rfl
theorem f267_49 : fetch 267 49 = some (.aload_n 0, 0, 0, 0) := rfl
theorem f267_50 : fetch 267 50 = some (.getfield 424, 12, 58, 0) := rfl
theorem f267_53 : fetch 267 53 = some (.iconst 0, 0, 0, 0) := rfl
theorem f267_54 : fetch 267 54 = some (.iastore, 0, 0, 0) := rfl
theorem f267_55 : fetch 267 55 = some (.iconst 1, 0, 0, 0) := rfl
theorem f267_56 : fetch 267 56 = some (.istore_n 2, 0, 0, 0) := rfl
theorem f267_57 : fetch 267 57 = some (.iload_n 2, 0, 0, 0) := rfl
theorem f267_58 : fetch 267 58 = some (.ifCond .eq 51, 109, 0, 0) := rfl
theorem f267_61 : fetch 267 61 = some (.aload_n 0, 0, 0, 0) := rfl
theorem f267_62 : fetch 267 62 = some (.getfield 381, 12, 55, 0) := rfl
theorem f267_65 : fetch 267 65 = some (.ifCond .ne 44, 109, 0, 0) := rfl
theorem f267_68 : fetch 267 68 = some (.aload_n 0, 0, 0, 0) := rfl
theorem f267_69 : fetch 267 69 = some (.invokevirtual 524, 266, 0, 0) := rfl
theorem f267_72 : fetch 267 72 = some (.aload_n 0, 0, 0, 0) := rfl
theorem f267_73 : fetch 267 73 = some (.getfield 381, 12, 55, 0) := rfl
theorem f267_76 : fetch 267 76 = some (.ifCond .ne 18, 94, 0, 0) := rfl
theorem f267_79 : fetch 267 79 = some (.aload_n 0, 0, 0, 0) := rfl
theorem f267_80 : fetch 267 80 = some (.getfield 384, 12, 53, 0) := rfl
theorem f267_83 : fetch 267 83 = some (.aload_n 0, 0, 0, 0) := rfl
theorem f267_84 : fetch 267 84 = some (.getfield 374, 12, 52, 0) := rfl
theorem f267_87 : fetch 267 87 = some (.if_icmp .ge 7, 94, 0, 0) := rfl
theorem f267_90 : fetch 267 90 = some (.iconst 1, 0, 0, 0) := rfl
theorem f267_91 : fetch 267 91 = some (.goto 4, 95, 0, 0) := rfl
theorem f267_94 : fetch 267 94 = some (.iconst 0, 0, 0, 0) := rfl
theorem f267_95 : fetch 267 95 = some (.istore_n 2, 0, 0, 0) := rfl
theorem f267_96 : fetch 267 96 = some (.aload_n 0, 0, 0, 0) := rfl
theorem f267_97 : fetch 267 97 = some (.dup, 0, 0, 0) := rfl
theorem f267_98 : fetch 267 98 = some (.getfield 384, 12, 53, 0) := rfl
theorem f267_101 : fetch 267 101 = some (.iconst 1, 0, 0, 0) := rfl
theorem f267_102 : fetch 267 102 = some (.iadd, 0, 0, 0) := rfl
theorem f267_103 : fetch 267 103 = some (.putfield 384, 12, 53, 0) := rfl
theorem f267_106 : fetch 267 106 = some (.goto (-49), 57, 0, 0) := rfl
theorem f267_109 : fetch 267 109 = some (.aload_n 0, 0, 0, 0) := rfl
theorem f267_110 : fetch 267 110 = some (.iconst 0, 0, 0, 0) := rfl
theorem f267_111 : fetch 267 111 = some (.putfield 374, 12, 52, 0) := rfl
theorem f267_114 : fetch 267 114 = some (.aload_n 0, 0, 0, 0) := rfl
theorem f267_115 : fetch 267 115 = some (.getfield 381, 12, 55, 0) := rfl
theorem f267_118 : fetch 267 118 = some (.ifCond .le 21, 139, 0, 0) := rfl
theorem f267_121 : fetch 267 121 = some (.aload_n 0, 0, 0, 0) := rfl
theorem f267_122 : fetch 267 122 = some (.getfield 135, 12, 60, 2) := rfl
theorem f267_125 : fetch 267 125 = some (.aload_n 0, 0, 0, 0) := rfl
theorem f267_126 : fetch 267 126 = some (.getfield 424, 12, 58, 0) := rfl
theorem f267_129 : fetch 267 129 = some (.iconst 0, 0, 0, 0) := rfl
theorem f267_130 : fetch 267 130 = some (.iastore, 0, 0, 0) := rfl
theorem f267_131 : fetch 267 131 = some (.bipush (-2), 0, 0, 0) := rfl
theorem f267_133 : fetch 267 133 = some (.aload_n 0, 0, 0, 0) := rfl
theorem f267_134 : fetch 267 134 = some (.getfield 381, 12, 55, 0) := rfl
theorem f267_137 : fetch 267 137 = some (.isub, 0, 0, 0) := rfl
theorem f267_138 : fetch 267 138 = some (.ireturn, 0, 0, 0) := rfl
theorem f267_139 : fetch 267 139 = some (.aload_n 0, 0, 0, 0) := rfl
theorem f267_140 : fetch 267 140 = some (.getfield 132, 12, 59, 2) := rfl
theorem f267_143 : fetch 267 143 = some (.aload_n 0, 0, 0, 0) := rfl
theorem f267_144 : fetch 267 144 = some (.getfield 424, 12, 58, 0) := rfl
theorem f267_147 : fetch 267 147 = some (.iload_n 1, 0, 0, 0) := rfl
theorem f267_148 : fetch 267 148 = some (.iastore, 0, 0, 0) := rfl
theorem f267_149 : fetch 267 149 = some (.aload_n 0, 0, 0, 0) := rfl
theorem f267_150 : fetch 267 150 = some (.dup, 0, 0, 0) := rfl
theorem f267_151 : fetch 267 151 = some (.getfield 424, 12, 58, 0) := rfl
theorem f267_154 : fetch 267 154 = some (.iconst 1, 0, 0, 0) := rfl
theorem f267_155 : fetch 267 155 = some (.iadd, 0, 0, 0) := rfl
theorem f267_156 : fetch 267 156 = some (.putfield 424, 12, 58, 0) := rfl
theorem f267_159 : fetch 267 159 = some (.aload_n 0, 0, 0, 0) := rfl
theorem f267_160 : fetch 267 160 = some (.getfield 424, 12, 58, 0) := rfl
theorem f267_163 : fetch 267 163 = some (.iconst 1, 0, 0, 0) := rfl
theorem f267_164 : fetch 267 164 = some (.isub, 0, 0, 0) := rfl
theorem f267_165 : fetch 267 165 = some (.ireturn, 0, 0, 0) := rfl
set_option maxRecDepth 100000 in
set_option maxHeartbeats 4000000 in
theorem p267_j109_ok (d : Nat) (F : Nat) (a0 : Int32) (h : HS) (w : WF h) (r : Int32 × HS) (hp : p267_j109 F a0 h = some r) : ex (d + 4) 267 (109, [some (.ref (86)), some (.int (a0)), none], [], h) = some (some (.int (r.1)), r.2) := by
  unfold p267_j109 at hp
  refine e_aload_n f267_109 rfl ?_
  refine e_iconst (v := 0) f267_110 (by decide) ?_
  refine e_putI f267_111 (WF.t w 86 (by decide)) rfl ?_
  refine e_aload_n f267_114 rfl ?_
  refine e_getI f267_115 (WF.t w 86 (by decide)) (by decide) ?_
  by_cases hc15 : (0 : Int32) < (hI (hsI (h) (86) 52 (0)) (86) 55)
  · rw [if_pos hc15] at hp
    refine e_if_le_f f267_118 hc15 ?_
    refine e_aload_n f267_121 rfl ?_
    refine e_getR f267_122 (WF.t w 86 (by decide)) rfl (WF.r (q := 128) w 86 60 (by decide)) ?_
    refine e_aload_n f267_125 rfl ?_
    refine e_getI f267_126 (WF.t w 86 (by decide)) (by decide) ?_
    refine e_iconst (v := 0) f267_129 (by decide) ?_
    by_cases hg16 : (hI (hsI (h) (86) 52 (0)) (86) 58) < (0 : Int32) ∨ 20 ≤ (hI (hsI (h) (86) 52 (0)) (86) 58).toNatClampNeg
    · rw [if_pos hg16] at hp; cases hp
    rw [if_neg hg16] at hp
    refine e_iastore f267_130 (WF.t w 128 (by decide)) (WF.n w 128 (by decide)) hg16 ?_
    refine e_bipush (v := -2) f267_131 (by decide) ?_
    refine e_aload_n f267_133 rfl ?_
    refine e_getI f267_134 (WF.t w 86 (by decide)) (by decide) ?_
    refine e_isub f267_137 ?_
    have hp := Option.some.inj hp
    subst hp
    exact e_ireturn f267_138 (Or.inl rfl)
  · rw [if_neg hc15] at hp
    refine e_if_le_t f267_118 hc15 ?_
    refine e_aload_n f267_139 rfl ?_
    refine e_getR f267_140 (WF.t w 86 (by decide)) rfl (WF.r (q := 127) w 86 59 (by decide)) ?_
    refine e_aload_n f267_143 rfl ?_
    refine e_getI f267_144 (WF.t w 86 (by decide)) (by decide) ?_
    refine e_iload_n f267_147 rfl ?_
    by_cases hg17 : (hI (hsI (h) (86) 52 (0)) (86) 58) < (0 : Int32) ∨ 20 ≤ (hI (hsI (h) (86) 52 (0)) (86) 58).toNatClampNeg
    · rw [if_pos hg17] at hp; cases hp
    rw [if_neg hg17] at hp
    refine e_iastore f267_148 (WF.t w 127 (by decide)) (WF.n w 127 (by decide)) hg17 ?_
    refine e_aload_n f267_149 rfl ?_
    refine e_dup f267_150 rfl ?_
    refine e_getI f267_151 (WF.t w 86 (by decide)) (by decide) ?_
    refine e_iconst (v := 1) f267_154 (by decide) ?_
    refine e_iadd f267_155 ?_
    refine e_putI f267_156 (WF.t w 86 (by decide)) rfl ?_
    obtain ⟨h18, e19, hp⟩ := bind_some hp
    try dsimp only at hp
    have e19 := Option.some.inj e19
    have w20 : WF h18 := e19 ▸ w
    rw [e19]
    refine e_aload_n f267_159 rfl ?_
    refine e_getI f267_160 (WF.t w20 86 (by decide)) (by decide) ?_
    refine e_iconst (v := 1) f267_163 (by decide) ?_
    refine e_isub f267_164 ?_
    have hp := Option.some.inj hp
    subst hp
    exact e_ireturn f267_165 (Or.inl rfl)
set_option maxRecDepth 100000 in
set_option maxHeartbeats 4000000 in
theorem p267_j109_w (F : Nat) (a0 : Int32) (h : HS) (w : WF h) (r : Int32 × HS) (hp : p267_j109 F a0 h = some r) : WF r.2 := by
  unfold p267_j109 at hp
  by_cases hc15 : (0 : Int32) < (hI (hsI (h) (86) 52 (0)) (86) 55)
  · rw [if_pos hc15] at hp
    by_cases hg16 : (hI (hsI (h) (86) 52 (0)) (86) 58) < (0 : Int32) ∨ 20 ≤ (hI (hsI (h) (86) 52 (0)) (86) 58).toNatClampNeg
    · rw [if_pos hg16] at hp; cases hp
    rw [if_neg hg16] at hp
    have hp := Option.some.inj hp
    subst hp
    exact (w)
  · rw [if_neg hc15] at hp
    by_cases hg17 : (hI (hsI (h) (86) 52 (0)) (86) 58) < (0 : Int32) ∨ 20 ≤ (hI (hsI (h) (86) 52 (0)) (86) 58).toNatClampNeg
    · rw [if_pos hg17] at hp; cases hp
    rw [if_neg hg17] at hp
    obtain ⟨h18, e19, hp⟩ := bind_some hp
    try dsimp only at hp
    have e19 := Option.some.inj e19
    have w20 : WF h18 := e19 ▸ w
    have hp := Option.some.inj hp
    subst hp
    exact (w20)
set_option maxRecDepth 100000 in
set_option maxHeartbeats 4000000 in
theorem p267_j95_ok (d : Nat) (F : Nat) (a0 : Int32) (K57 : HS → Int32 → Option (Int32 × HS)) (hK57 : ∀ (h : HS) (w : WF h) (u2 : Int32) (r : Int32 × HS), K57 h u2 = some r → ex (d + 4) 267 (57, [some (.ref (86)), some (.int (a0)), some (.int (u2))], [], h) = some (some (.int (r.1)), r.2)) (h : HS) (w : WF h) (s0 : Int32) (r : Int32 × HS) (hp : p267_j95 F a0 K57 h s0 = some r) : ex (d + 4) 267 (95, [some (.ref (86)), some (.int (a0)), none], [.int (s0)], h) = some (some (.int (r.1)), r.2) := by
  unfold p267_j95 at hp
  refine e_istore_n (ls2 := [some (.ref (86)), some (.int (a0)), some (.int (s0))]) f267_95 (Nat.le_of_ble_eq_true rfl) rfl ?_
  refine e_aload_n f267_96 rfl ?_
  refine e_dup f267_97 rfl ?_
  refine e_getI f267_98 (WF.t w 86 (by decide)) (by decide) ?_
  refine e_iconst (v := 1) f267_101 (by decide) ?_
  refine e_iadd f267_102 ?_
  refine e_putI f267_103 (WF.t w 86 (by decide)) rfl ?_
  refine e_goto f267_106 ?_
  refine ex_weak (ls := [some (.ref (86)), some (.int (a0)), some (.int (s0))]) (le2_ok ⟨Or.inr rfl, Or.inr rfl, Or.inr rfl, trivial⟩) ?_
  exact hK57 (hsI (h) (86) 53 ((hI (h) (86) 53) + (1))) (w) (s0) _ hp
set_option maxRecDepth 100000 in
set_option maxHeartbeats 4000000 in
theorem p267_j95_w (F : Nat) (a0 : Int32) (K57 : HS → Int32 → Option (Int32 × HS)) (hK57 : ∀ (h : HS) (w : WF h) (u2 : Int32) (r : Int32 × HS), K57 h u2 = some r → WF r.2) (h : HS) (w : WF h) (s0 : Int32) (r : Int32 × HS) (hp : p267_j95 F a0 K57 h s0 = some r) : WF r.2 := by
  unfold p267_j95 at hp
  exact hK57 (hsI (h) (86) 53 ((hI (h) (86) 53) + (1))) (w) (s0) _ hp
set_option maxRecDepth 100000 in
set_option maxHeartbeats 4000000 in
theorem p267_j94_ok (d : Nat) (F : Nat) (a0 : Int32) (K57 : HS → Int32 → Option (Int32 × HS)) (hK57 : ∀ (h : HS) (w : WF h) (u2 : Int32) (r : Int32 × HS), K57 h u2 = some r → ex (d + 4) 267 (57, [some (.ref (86)), some (.int (a0)), some (.int (u2))], [], h) = some (some (.int (r.1)), r.2)) (h : HS) (w : WF h) (r : Int32 × HS) (hp : p267_j94 F a0 K57 h = some r) : ex (d + 4) 267 (94, [some (.ref (86)), some (.int (a0)), none], [], h) = some (some (.int (r.1)), r.2) := by
  unfold p267_j94 at hp
  refine e_iconst (v := 0) f267_94 (by decide) ?_
  refine ex_weak (ls := [some (.ref (86)), some (.int (a0)), none]) (le2_ok ⟨Or.inr rfl, Or.inr rfl, Or.inl rfl, trivial⟩) ?_
  exact p267_j95_ok d F a0 (K57) (hK57) (h) (w) (0) _ hp
set_option maxRecDepth 100000 in
set_option maxHeartbeats 4000000 in
theorem p267_j94_w (F : Nat) (a0 : Int32) (K57 : HS → Int32 → Option (Int32 × HS)) (hK57 : ∀ (h : HS) (w : WF h) (u2 : Int32) (r : Int32 × HS), K57 h u2 = some r → WF r.2) (h : HS) (w : WF h) (r : Int32 × HS) (hp : p267_j94 F a0 K57 h = some r) : WF r.2 := by
  unfold p267_j94 at hp
  exact p267_j95_w F a0 (K57) (hK57) (h) (w) (0) _ hp
set_option maxRecDepth 100000 in
set_option maxHeartbeats 4000000 in
theorem p267_L57_ok (d : Nat) (F : Nat) (a0 : Int32) : ∀ (n : Nat) (h : HS) (w : WF h) (v2 : Int32) (r : Int32 × HS), p267_L57 F a0 n h v2 = some r → ex (d + 4) 267 (57, [some (.ref (86)), some (.int (a0)), some (.int (v2))], [], h) = some (some (.int (r.1)), r.2) := by
  intro n
  induction n with
  | zero => intro h w v2 r hp; cases hp
  | succ n ih =>
    intro h w v2 r hp
    unfold p267_L57 at hp
    refine e_iload_n f267_57 rfl ?_
    by_cases hc9 : (v2) = (0 : Int32)
    · rw [if_pos hc9] at hp
      refine e_if_eq_t f267_58 hc9 ?_
      refine ex_weak (ls := [some (.ref (86)), some (.int (a0)), none]) (le2_ok ⟨Or.inr rfl, Or.inr rfl, Or.inl rfl, trivial⟩) ?_
      exact p267_j109_ok d F a0 (h) (w)  _ hp
    · rw [if_neg hc9] at hp
      refine e_if_eq_f f267_58 hc9 ?_
      refine e_aload_n f267_61 rfl ?_
      refine e_getI f267_62 (WF.t w 86 (by decide)) (by decide) ?_
      by_cases hc10 : (hI (h) (86) 55) = (0 : Int32)
      · rw [if_pos hc10] at hp
        refine e_if_ne_f f267_65 hc10 ?_
        refine e_aload_n f267_68 rfl ?_
        obtain ⟨r11, hr12, hp⟩ := bind_some hp
        try dsimp only at hp
        refine e_callV (st := []) (o := 86) (as := []) f267_69 (by decide) rfl rfl (Nat.le_of_ble_eq_true rfl) (WF.t w 86 (by decide)) (Nat.le_of_ble_eq_true rfl) (p266_ok d F (h) w r11 hr12) ?_
        show ex _ 267 (72, [some (.ref (86)), some (.int (a0)), some (.int (v2))], [], r11) = _
        refine e_aload_n f267_72 rfl ?_
        refine e_getI f267_73 (WF.t (p266_w F (h) w  r11 hr12) 86 (by decide)) (by decide) ?_
        by_cases hc13 : (hI (r11) (86) 55) = (0 : Int32)
        · rw [if_pos hc13] at hp
          refine e_if_ne_f f267_76 hc13 ?_
          refine e_aload_n f267_79 rfl ?_
          refine e_getI f267_80 (WF.t (p266_w F (h) w  r11 hr12) 86 (by decide)) (by decide) ?_
          refine e_aload_n f267_83 rfl ?_
          refine e_getI f267_84 (WF.t (p266_w F (h) w  r11 hr12) 86 (by decide)) (by decide) ?_
          by_cases hc14 : (hI (r11) (86) 53) < ((hI (r11) (86) 52) : Int32)
          · rw [if_pos hc14] at hp
            refine e_icmp_ge_f f267_87 hc14 ?_
            refine e_iconst (v := 1) f267_90 (by decide) ?_
            refine e_goto f267_91 ?_
            refine ex_weak (ls := [some (.ref (86)), some (.int (a0)), none]) (le2_ok ⟨Or.inr rfl, Or.inr rfl, Or.inl rfl, trivial⟩) ?_
            exact p267_j95_ok d F a0 ((p267_L57 F a0 n)) (ih) (r11) ((p266_w F (h) w  r11 hr12)) (1) _ hp
          · rw [if_neg hc14] at hp
            refine e_icmp_ge_t f267_87 hc14 ?_
            refine ex_weak (ls := [some (.ref (86)), some (.int (a0)), none]) (le2_ok ⟨Or.inr rfl, Or.inr rfl, Or.inl rfl, trivial⟩) ?_
            exact p267_j94_ok d F a0 ((p267_L57 F a0 n)) (ih) (r11) ((p266_w F (h) w  r11 hr12))  _ hp
        · rw [if_neg hc13] at hp
          refine e_if_ne_t f267_76 hc13 ?_
          refine ex_weak (ls := [some (.ref (86)), some (.int (a0)), none]) (le2_ok ⟨Or.inr rfl, Or.inr rfl, Or.inl rfl, trivial⟩) ?_
          exact p267_j94_ok d F a0 ((p267_L57 F a0 n)) (ih) (r11) ((p266_w F (h) w  r11 hr12))  _ hp
      · rw [if_neg hc10] at hp
        refine e_if_ne_t f267_65 hc10 ?_
        refine ex_weak (ls := [some (.ref (86)), some (.int (a0)), none]) (le2_ok ⟨Or.inr rfl, Or.inr rfl, Or.inl rfl, trivial⟩) ?_
        exact p267_j109_ok d F a0 (h) (w)  _ hp
set_option maxRecDepth 100000 in
set_option maxHeartbeats 4000000 in
theorem p267_L57_w (F : Nat) (a0 : Int32) : ∀ (n : Nat) (h : HS) (w : WF h) (v2 : Int32) (r : Int32 × HS), p267_L57 F a0 n h v2 = some r → WF r.2 := by
  intro n
  induction n with
  | zero => intro h w v2 r hp; cases hp
  | succ n ih =>
    intro h w v2 r hp
    unfold p267_L57 at hp
    by_cases hc9 : (v2) = (0 : Int32)
    · rw [if_pos hc9] at hp
      exact p267_j109_w F a0 (h) (w)  _ hp
    · rw [if_neg hc9] at hp
      by_cases hc10 : (hI (h) (86) 55) = (0 : Int32)
      · rw [if_pos hc10] at hp
        obtain ⟨r11, hr12, hp⟩ := bind_some hp
        try dsimp only at hp
        by_cases hc13 : (hI (r11) (86) 55) = (0 : Int32)
        · rw [if_pos hc13] at hp
          by_cases hc14 : (hI (r11) (86) 53) < ((hI (r11) (86) 52) : Int32)
          · rw [if_pos hc14] at hp
            exact p267_j95_w F a0 ((p267_L57 F a0 n)) (ih) (r11) ((p266_w F (h) w  r11 hr12)) (1) _ hp
          · rw [if_neg hc14] at hp
            exact p267_j94_w F a0 ((p267_L57 F a0 n)) (ih) (r11) ((p266_w F (h) w  r11 hr12))  _ hp
        · rw [if_neg hc13] at hp
          exact p267_j94_w F a0 ((p267_L57 F a0 n)) (ih) (r11) ((p266_w F (h) w  r11 hr12))  _ hp
      · rw [if_neg hc10] at hp
        exact p267_j109_w F a0 (h) (w)  _ hp
set_option maxRecDepth 100000 in
set_option maxHeartbeats 4000000 in
theorem p267_ok (d : Nat) (F : Nat) (h : HS) (w : WF h) (a0 : Int32) (r : Int32 × HS) (hp : p267 F h a0 = some r) : ex (d + 4) 267 (ent 267 [.ref (86), .int (a0)] h) = some (some (.int (r.1)), r.2) := by
  rw [show ent 267 [.ref (86), .int (a0)] h = (0, [some (.ref (86)), some (.int (a0)), none], [], h) from by  rfl]
  refine ex_weak (ls := [some (.ref (86)), some (.int (a0)), none]) (le2_ok ⟨Or.inr rfl, Or.inr rfl, Or.inr rfl, trivial⟩) ?_
  unfold p267 at hp
  refine e_aload_n f267_0 rfl ?_
  refine e_getI f267_1 (WF.t w 86 (by decide)) (by decide) ?_
  refine e_bipush (v := 20) f267_4 (by decide) ?_
  by_cases hc1 : (hI (h) (86) 58) = ((20) : Int32)
  · rw [if_pos hc1] at hp
    refine e_icmp_eq_t f267_6 hc1 ?_
    refine e_iconst (v := -1) f267_23 (by decide) ?_
    have hp := Option.some.inj hp
    subst hp
    exact e_ireturn f267_24 (Or.inl rfl)
  · rw [if_neg hc1] at hp
    refine e_icmp_eq_f f267_6 hc1 ?_
    refine e_iload_n f267_9 rfl ?_
    refine e_aload_n f267_10 rfl ?_
    refine e_getI f267_11 (WF.t w 86 (by decide)) (by decide) ?_
    refine e_sipush (v := 3999) f267_14 (by decide) ?_
    obtain ⟨r2, hr3, hp⟩ := bind_some hp
    try dsimp only at hp
    refine e_callS (st := []) (as := [.int (a0), .int (hI (h) (86) 1), .int (3999)]) f267_17 (by decide) rfl rfl (Nat.le_of_ble_eq_true rfl) (Nat.le_of_ble_eq_true rfl) (p187_ok (d + 3) (h) w (a0) (hI (h) (86) 1) (3999) r2 hr3) ?_
    show ex _ 267 (20, [some (.ref (86)), some (.int (a0)), none], [.int (r2)], h) = _
    by_cases hc4 : (r2) = (0 : Int32)
    · rw [if_pos hc4] at hp
      refine e_if_ne_f f267_20 hc4 ?_
      refine e_iconst (v := -1) f267_23 (by decide) ?_
      have hp := Option.some.inj hp
      subst hp
      exact e_ireturn f267_24 (Or.inl rfl)
    · rw [if_neg hc4] at hp
      refine e_if_ne_t f267_20 hc4 ?_
      refine e_aload_n f267_25 rfl ?_
      refine e_iconst (v := 0) f267_26 (by decide) ?_
      refine e_putI f267_27 (WF.t w 86 (by decide)) rfl ?_
      refine e_aload_n f267_30 rfl ?_
      refine e_iconst (v := 0) f267_31 (by decide) ?_
      refine e_putI f267_32 (WF.t w 86 (by decide)) rfl ?_
      refine e_aload_n f267_35 rfl ?_
      refine e_iconst (v := 0) f267_36 (by decide) ?_
      refine e_putI f267_37 (WF.t w 86 (by decide)) rfl ?_
      refine e_aload_n f267_40 rfl ?_
      refine e_iconst (v := 0) f267_41 (by decide) ?_
      refine e_putI f267_42 (WF.t w 86 (by decide)) rfl ?_
      refine e_aload_n f267_45 rfl ?_
      refine e_getR f267_46 (WF.t w 86 (by decide)) rfl (WF.r (q := 128) w 86 60 (by decide)) ?_
      refine e_aload_n f267_49 rfl ?_
      refine e_getI f267_50 (WF.t w 86 (by decide)) (by decide) ?_
      refine e_iconst (v := 0) f267_53 (by decide) ?_
      by_cases hg5 : (hI (hsI (hsI (hsI (hsI (h) (86) 53 (0)) (86) 55 (0)) (86) 57 (0)) (86) 67 (0)) (86) 58) < (0 : Int32) ∨ 20 ≤ (hI (hsI (hsI (hsI (hsI (h) (86) 53 (0)) (86) 55 (0)) (86) 57 (0)) (86) 67 (0)) (86) 58).toNatClampNeg
      · rw [if_pos hg5] at hp; cases hp
      rw [if_neg hg5] at hp
      refine e_iastore f267_54 (WF.t w 128 (by decide)) (WF.n w 128 (by decide)) hg5 ?_
      obtain ⟨h6, e7, hp⟩ := bind_some hp
      try dsimp only at hp
      have e7 := Option.some.inj e7
      have w8 : WF h6 := e7 ▸ w
      rw [e7]
      refine e_iconst (v := 1) f267_55 (by decide) ?_
      refine e_istore_n (ls2 := [some (.ref (86)), some (.int (a0)), some (.int (1))]) f267_56 (Nat.le_of_ble_eq_true rfl) rfl ?_
      refine ex_weak (ls := [some (.ref (86)), some (.int (a0)), some (.int (1))]) (le2_ok ⟨Or.inr rfl, Or.inr rfl, Or.inr rfl, trivial⟩) ?_
      exact p267_L57_ok d F a0 F (h6) (w8) (1) _ hp
set_option maxRecDepth 100000 in
set_option maxHeartbeats 4000000 in
theorem p267_w (F : Nat) (h : HS) (w : WF h) (a0 : Int32) (r : Int32 × HS) (hp : p267 F h a0 = some r) : WF r.2 := by
  unfold p267 at hp
  by_cases hc1 : (hI (h) (86) 58) = ((20) : Int32)
  · rw [if_pos hc1] at hp
    have hp := Option.some.inj hp
    subst hp
    exact (w)
  · rw [if_neg hc1] at hp
    obtain ⟨r2, hr3, hp⟩ := bind_some hp
    try dsimp only at hp
    by_cases hc4 : (r2) = (0 : Int32)
    · rw [if_pos hc4] at hp
      have hp := Option.some.inj hp
      subst hp
      exact (w)
    · rw [if_neg hc4] at hp
      by_cases hg5 : (hI (hsI (hsI (hsI (hsI (h) (86) 53 (0)) (86) 55 (0)) (86) 57 (0)) (86) 67 (0)) (86) 58) < (0 : Int32) ∨ 20 ≤ (hI (hsI (hsI (hsI (hsI (h) (86) 53 (0)) (86) 55 (0)) (86) 57 (0)) (86) 67 (0)) (86) 58).toNatClampNeg
      · rw [if_pos hg5] at hp; cases hp
      rw [if_neg hg5] at hp
      obtain ⟨h6, e7, hp⟩ := bind_some hp
      try dsimp only at hp
      have e7 := Option.some.inj e7
      have w8 : WF h6 := e7 ▸ w
      exact p267_L57_w F a0 F (h6) (w8) (1) _ hp
theorem f268_0 : fetch 268 0 = some (.iconst (-1), 0, 0, 0) := rfl
theorem f268_1 : fetch 268 1 = some (.istore_n 2, 0, 0, 0) := rfl
theorem f268_2 : fetch 268 2 = some (.iconst 0, 0, 0, 0) := rfl
theorem f268_3 : fetch 268 3 = some (.istore_n 3, 0, 0, 0) := rfl
theorem f268_4 : fetch 268 4 = some (.iload_n 3, 0, 0, 0) := rfl
theorem f268_5 : fetch 268 5 = some (.aload_n 0, 0, 0, 0) := rfl
theorem f268_6 : fetch 268 6 = some (.getfield 424, 12, 58, 0) := rfl
theorem f268_9 : fetch 268 9 = some (.if_icmp .ge 41, 50, 0, 0) := rfl
theorem f268_12 : fetch 268 12 = some (.aload_n 0, 0, 0, 0) := rfl
theorem f268_13 : fetch 268 13 = some (.getfield 132, 12, 59, 2) := rfl
theorem f268_16 : fetch 268 16 = some (.iload_n 3, 0, 0, 0) := rfl
theorem f268_17 : fetch 268 17 = some (.iaload, 0, 0, 0) := rfl
theorem f268_18 : fetch 268 18 = some (.iload_n 1, 0, 0, 0) := rfl
theorem f268_19 : fetch 268 19 = some (.if_icmp .gt 25, 44, 0, 0) := rfl
theorem f268_22 : fetch 268 22 = some (.iload_n 2, 0, 0, 0) := rfl
theorem f268_23 : fetch 268 23 = some (.iconst (-1), 0, 0, 0) := rfl
theorem f268_24 : fetch 268 24 = some (.if_icmp .eq 18, 42, 0, 0) := rfl
theorem f268_27 : fetch 268 27 = some (.aload_n 0, 0, 0, 0) := rfl
theorem f268_28 : fetch 268 28 = some (.getfield 132, 12, 59, 2) := rfl
theorem f268_31 : fetch 268 31 = some (.iload_n 3, 0, 0, 0) := rfl
theorem f268_32 : fetch 268 32 = some (.iaload, 0, 0, 0) := rfl
theorem f268_33 : fetch 268 33 = some (.aload_n 0, 0, 0, 0) := rfl
theorem f268_34 : fetch 268 34 = some (.getfield 132, 12, 59, 2) := rfl
theorem f268_37 : fetch 268 37 = some (.iload_n 2, 0, 0, 0) := rfl
theorem f268_38 : fetch 268 38 = some (.iaload, 0, 0, 0) := rfl
theorem f268_39 : fetch 268 39 = some (.if_icmp .lt 5, 44, 0, 0) := rfl
theorem f268_42 : fetch 268 42 = some (.iload_n 3, 0, 0, 0) := rfl
theorem f268_43 : fetch 268 43 = some (.istore_n 2, 0, 0, 0) := rfl
theorem f268_44 : fetch 268 44 = some (.iinc 3 1, 0, 0, 0) := rfl
theorem f268_47 : fetch 268 47 = some (.goto (-43), 4, 0, 0) := rfl
theorem f268_50 : fetch 268 50 = some (.iload_n 2, 0, 0, 0) := rfl
theorem f268_51 : fetch 268 51 = some (.ireturn, 0, 0, 0) := rfl
set_option maxRecDepth 100000 in
set_option maxHeartbeats 4000000 in
theorem p268_j44_ok (d : Nat) (F : Nat) (a0 : Int32) (K4 : Int32 → Int32 → Option (Int32)) (h : HS) (w : WF h) (hK4 : ∀ (u2 : Int32) (u3 : Int32) (r : Int32), K4 u2 u3 = some r → ex (d + 0) 268 (4, [some (.ref (86)), some (.int (a0)), some (.int (u2)), some (.int (u3))], [], h) = some (some (.int (r)), h)) (v2 : Int32) (v3 : Int32) (r : Int32) (hp : p268_j44 F a0 K4 h v2 v3 = some r) : ex (d + 0) 268 (44, [some (.ref (86)), some (.int (a0)), some (.int (v2)), some (.int (v3))], [], h) = some (some (.int (r)), h) := by
  unfold p268_j44 at hp
  refine e_iinc (ls2 := [some (.ref (86)), some (.int (a0)), some (.int (v2)), some (.int ((v3) + 1))]) f268_44 (by decide) rfl rfl ?_
  refine e_goto f268_47 ?_
  refine ex_weak (ls := [some (.ref (86)), some (.int (a0)), some (.int (v2)), some (.int ((v3) + 1))]) (le2_ok ⟨Or.inr rfl, Or.inr rfl, Or.inr rfl, Or.inr rfl, trivial⟩) ?_
  exact hK4 (v2) ((v3) + 1) _ hp
set_option maxRecDepth 100000 in
set_option maxHeartbeats 4000000 in
theorem p268_j42_ok (d : Nat) (F : Nat) (a0 : Int32) (K4 : Int32 → Int32 → Option (Int32)) (h : HS) (w : WF h) (hK4 : ∀ (u2 : Int32) (u3 : Int32) (r : Int32), K4 u2 u3 = some r → ex (d + 0) 268 (4, [some (.ref (86)), some (.int (a0)), some (.int (u2)), some (.int (u3))], [], h) = some (some (.int (r)), h)) (v3 : Int32) (r : Int32) (hp : p268_j42 F a0 K4 h v3 = some r) : ex (d + 0) 268 (42, [some (.ref (86)), some (.int (a0)), none, some (.int (v3))], [], h) = some (some (.int (r)), h) := by
  unfold p268_j42 at hp
  refine e_iload_n f268_42 rfl ?_
  refine e_istore_n (ls2 := [some (.ref (86)), some (.int (a0)), some (.int (v3)), some (.int (v3))]) f268_43 (Nat.le_of_ble_eq_true rfl) rfl ?_
  refine ex_weak (ls := [some (.ref (86)), some (.int (a0)), some (.int (v3)), some (.int (v3))]) (le2_ok ⟨Or.inr rfl, Or.inr rfl, Or.inr rfl, Or.inr rfl, trivial⟩) ?_
  exact p268_j44_ok d F a0 (K4) (h) (w) (hK4) (v3) (v3) _ hp
set_option maxRecDepth 100000 in
set_option maxHeartbeats 4000000 in
theorem p268_L4_ok (d : Nat) (F : Nat) (a0 : Int32) (h : HS) (w : WF h)  : ∀ (n : Nat) (v2 : Int32) (v3 : Int32) (r : Int32), p268_L4 F a0 n h v2 v3 = some r → ex (d + 0) 268 (4, [some (.ref (86)), some (.int (a0)), some (.int (v2)), some (.int (v3))], [], h) = some (some (.int (r)), h) := by
  intro n
  induction n with
  | zero => intro v2 v3 r hp; cases hp
  | succ n ih =>
    intro v2 v3 r hp
    unfold p268_L4 at hp
    refine e_iload_n f268_4 rfl ?_
    refine e_aload_n f268_5 rfl ?_
    refine e_getI f268_6 (WF.t w 86 (by decide)) (by decide) ?_
    by_cases hc1 : (v3) < ((hI (h) (86) 58) : Int32)
    · rw [if_pos hc1] at hp
      refine e_icmp_ge_f f268_9 hc1 ?_
      refine e_aload_n f268_12 rfl ?_
      refine e_getR f268_13 (WF.t w 86 (by decide)) rfl (WF.r (q := 127) w 86 59 (by decide)) ?_
      refine e_iload_n f268_16 rfl ?_
      by_cases hg2 : (v3) < (0 : Int32) ∨ 20 ≤ (v3).toNatClampNeg
      · rw [if_pos hg2] at hp; cases hp
      rw [if_neg hg2] at hp
      refine e_iaload f268_17 (Or.inl (WF.t w 127 (by decide))) (WF.n w 127 (by decide)) hg2 ?_
      refine e_iload_n f268_18 rfl ?_
      by_cases hc3 : (a0) < ((hI (h) (127) (v3).toNatClampNeg) : Int32)
      · rw [if_pos hc3] at hp
        refine e_icmp_gt_t f268_19 hc3 ?_
        refine ex_weak (ls := [some (.ref (86)), some (.int (a0)), some (.int (v2)), some (.int (v3))]) (le2_ok ⟨Or.inr rfl, Or.inr rfl, Or.inr rfl, Or.inr rfl, trivial⟩) ?_
        exact p268_j44_ok d F a0 ((p268_L4 F a0 n h)) (h) (w) (ih) (v2) (v3) _ hp
      · rw [if_neg hc3] at hp
        refine e_icmp_gt_f f268_19 hc3 ?_
        refine e_iload_n f268_22 rfl ?_
        refine e_iconst (v := -1) f268_23 (by decide) ?_
        by_cases hc4 : (v2) = (((-1)) : Int32)
        · rw [if_pos hc4] at hp
          refine e_icmp_eq_t f268_24 hc4 ?_
          refine ex_weak (ls := [some (.ref (86)), some (.int (a0)), none, some (.int (v3))]) (le2_ok ⟨Or.inr rfl, Or.inr rfl, Or.inl rfl, Or.inr rfl, trivial⟩) ?_
          exact p268_j42_ok d F a0 ((p268_L4 F a0 n h)) (h) (w) (ih) (v3) _ hp
        · rw [if_neg hc4] at hp
          refine e_icmp_eq_f f268_24 hc4 ?_
          refine e_aload_n f268_27 rfl ?_
          refine e_getR f268_28 (WF.t w 86 (by decide)) rfl (WF.r (q := 127) w 86 59 (by decide)) ?_
          refine e_iload_n f268_31 rfl ?_
          by_cases hg5 : (v3) < (0 : Int32) ∨ 20 ≤ (v3).toNatClampNeg
          · rw [if_pos hg5] at hp; cases hp
          rw [if_neg hg5] at hp
          refine e_iaload f268_32 (Or.inl (WF.t w 127 (by decide))) (WF.n w 127 (by decide)) hg5 ?_
          refine e_aload_n f268_33 rfl ?_
          refine e_getR f268_34 (WF.t w 86 (by decide)) rfl (WF.r (q := 127) w 86 59 (by decide)) ?_
          refine e_iload_n f268_37 rfl ?_
          by_cases hg6 : (v2) < (0 : Int32) ∨ 20 ≤ (v2).toNatClampNeg
          · rw [if_pos hg6] at hp; cases hp
          rw [if_neg hg6] at hp
          refine e_iaload f268_38 (Or.inl (WF.t w 127 (by decide))) (WF.n w 127 (by decide)) hg6 ?_
          by_cases hc7 : (hI (h) (127) (v3).toNatClampNeg) < ((hI (h) (127) (v2).toNatClampNeg) : Int32)
          · rw [if_pos hc7] at hp
            refine e_icmp_lt_t f268_39 hc7 ?_
            refine ex_weak (ls := [some (.ref (86)), some (.int (a0)), some (.int (v2)), some (.int (v3))]) (le2_ok ⟨Or.inr rfl, Or.inr rfl, Or.inr rfl, Or.inr rfl, trivial⟩) ?_
            exact p268_j44_ok d F a0 ((p268_L4 F a0 n h)) (h) (w) (ih) (v2) (v3) _ hp
          · rw [if_neg hc7] at hp
            refine e_icmp_lt_f f268_39 hc7 ?_
            refine ex_weak (ls := [some (.ref (86)), some (.int (a0)), none, some (.int (v3))]) (le2_ok ⟨Or.inr rfl, Or.inr rfl, Or.inl rfl, Or.inr rfl, trivial⟩) ?_
            exact p268_j42_ok d F a0 ((p268_L4 F a0 n h)) (h) (w) (ih) (v3) _ hp
    · rw [if_neg hc1] at hp
      refine e_icmp_ge_t f268_9 hc1 ?_
      refine e_iload_n f268_50 rfl ?_
      have hp := Option.some.inj hp
      subst hp
      exact e_ireturn f268_51 (Or.inl rfl)
set_option maxRecDepth 100000 in
set_option maxHeartbeats 4000000 in
theorem p268_ok (d : Nat) (F : Nat) (h : HS) (w : WF h) (a0 : Int32) (r : Int32) (hp : p268 F h a0 = some r) : ex (d + 0) 268 (ent 268 [.ref (86), .int (a0)] h) = some (some (.int (r)), h) := by
  rw [show ent 268 [.ref (86), .int (a0)] h = (0, [some (.ref (86)), some (.int (a0)), none, none], [], h) from by  rfl]
  refine ex_weak (ls := [some (.ref (86)), some (.int (a0)), none, none]) (le2_ok ⟨Or.inr rfl, Or.inr rfl, Or.inr rfl, Or.inr rfl, trivial⟩) ?_
  unfold p268 at hp
  refine e_iconst (v := -1) f268_0 (by decide) ?_
  refine e_istore_n (ls2 := [some (.ref (86)), some (.int (a0)), some (.int ((-1))), none]) f268_1 (Nat.le_of_ble_eq_true rfl) rfl ?_
  refine e_iconst (v := 0) f268_2 (by decide) ?_
  refine e_istore_n (ls2 := [some (.ref (86)), some (.int (a0)), some (.int ((-1))), some (.int (0))]) f268_3 (Nat.le_of_ble_eq_true rfl) rfl ?_
  refine ex_weak (ls := [some (.ref (86)), some (.int (a0)), some (.int ((-1))), some (.int (0))]) (le2_ok ⟨Or.inr rfl, Or.inr rfl, Or.inr rfl, Or.inr rfl, trivial⟩) ?_
  exact p268_L4_ok d F a0 (h) (w) F ((-1)) (0) _ hp
theorem f269_0 : fetch 269 0 = some (.iload_n 1, 0, 0, 0) := rfl
theorem f269_1 : fetch 269 1 = some (.invokestatic 335, 188, 1, 1) := rfl
theorem f269_4 : fetch 269 4 = some (.ifCond .eq 11, 15, 0, 0) := rfl
theorem f269_7 : fetch 269 7 = some (.aload_n 0, 0, 0, 0) := rfl
theorem f269_8 : fetch 269 8 = some (.iload_n 1, 0, 0, 0) := rfl
theorem f269_9 : fetch 269 9 = some (.invokevirtual 526, 268, 1, 0) := rfl
theorem f269_12 : fetch 269 12 = some (.goto 4, 16, 0, 0) := rfl
theorem f269_15 : fetch 269 15 = some (.iconst (-1), 0, 0, 0) := rfl
theorem f269_16 : fetch 269 16 = some (.ireturn, 0, 0, 0) := rfl
set_option maxRecDepth 100000 in
set_option maxHeartbeats 4000000 in
theorem p269_ok (d : Nat) (F : Nat) (h : HS) (w : WF h) (a0 : Int32) (r : Int32) (hp : p269 F h a0 = some r) : ex (d + 2) 269 (ent 269 [.ref (86), .int (a0)] h) = some (some (.int (r)), h) := by
  rw [show ent 269 [.ref (86), .int (a0)] h = (0, [some (.ref (86)), some (.int (a0))], [], h) from by  rfl]
  refine ex_weak (ls := [some (.ref (86)), some (.int (a0))]) (le2_ok ⟨Or.inr rfl, Or.inr rfl, trivial⟩) ?_
  unfold p269 at hp
  refine e_iload_n f269_0 rfl ?_
  obtain ⟨r1, hr2, hp⟩ := bind_some hp
  try dsimp only at hp
  refine e_callS (st := []) (as := [.int (a0)]) f269_1 (by decide) rfl rfl (Nat.le_of_ble_eq_true rfl) (Nat.le_of_ble_eq_true rfl) (p188_ok d (h) w (a0) r1 hr2) ?_
  show ex _ 269 (4, [some (.ref (86)), some (.int (a0))], [.int (r1)], h) = _
  by_cases hc3 : (r1) = (0 : Int32)
  · rw [if_pos hc3] at hp
    refine e_if_eq_t f269_4 hc3 ?_
    refine e_iconst (v := -1) f269_15 (by decide) ?_
    have hp := Option.some.inj hp
    subst hp
    exact e_ireturn f269_16 (Or.inl rfl)
  · rw [if_neg hc3] at hp
    refine e_if_eq_f f269_4 hc3 ?_
    refine e_aload_n f269_7 rfl ?_
    refine e_iload_n f269_8 rfl ?_
    obtain ⟨r4, hr5, hp⟩ := bind_some hp
    try dsimp only at hp
    refine e_callV (st := []) (o := 86) (as := [.int (a0)]) f269_9 (by decide) rfl rfl (Nat.le_of_ble_eq_true rfl) (WF.t w 86 (by decide)) (Nat.le_of_ble_eq_true rfl) (p268_ok (d + 1) F (h) w (a0) r4 hr5) ?_
    show ex _ 269 (12, [some (.ref (86)), some (.int (a0))], [.int (r4)], h) = _
    refine e_goto f269_12 ?_
    have hp := Option.some.inj hp
    subst hp
    exact e_ireturn f269_16 (Or.inl rfl)
theorem f270_0 : fetch 270 0 = some (.iconst 0, 0, 0, 0) := rfl
theorem f270_1 : fetch 270 1 = some (.istore_n 2, 0, 0, 0) := rfl
theorem f270_2 : fetch 270 2 = some (.iload_n 2, 0, 0, 0) := rfl
theorem f270_3 : fetch 270 3 = some (.bipush 11, 0, 0, 0) := rfl
theorem f270_5 : fetch 270 5 = some (.if_icmp .ge 16, 21, 0, 0) := rfl
theorem f270_8 : fetch 270 8 = some (.aload_n 0, 0, 0, 0) := rfl
theorem f270_9 : fetch 270 9 = some (.getfield 163, 12, 71, 2) := rfl
theorem f270_12 : fetch 270 12 = some (.iload_n 2, 0, 0, 0) := rfl
theorem f270_13 : fetch 270 13 = some (.lconst 0, 0, 0, 0) := rfl
theorem f270_14 : fetch 270 14 = some (.lastore, 0, 0, 0) := rfl
theorem f270_15 : fetch 270 15 = some (.iinc 2 1, 0, 0, 0) := rfl
theorem f270_18 : fetch 270 18 = some (.goto (-16), 2, 0, 0) := rfl
theorem f270_21 : fetch 270 21 = some (.aload_n 0, 0, 0, 0) := rfl
theorem f270_22 : fetch 270 22 = some (.getfield 163, 12, 71, 2) := rfl
theorem f270_25 : fetch 270 25 = some (.bipush 10, 0, 0, 0) := rfl
theorem f270_27 : fetch 270 27 = some (.iload_n 1, 0, 0, 0) := rfl
theorem f270_28 : fetch 270 28 = some (.i2l, 0, 0, 0) := rfl
theorem f270_29 : fetch 270 29 = some (.lastore, 0, 0, 0) := rfl
theorem f270_30 : fetch 270 30 = some (.return_, 0, 0, 0) := rfl
set_option maxRecDepth 100000 in
set_option maxHeartbeats 4000000 in
theorem p270_L2_ok (d : Nat) (F : Nat) (a0 : Int32) : ∀ (n : Nat) (h : HS) (w : WF h) (v2 : Int32) (r : HS), p270_L2 F a0 n h v2 = some r → ex (d + 0) 270 (2, [some (.ref (86)), some (.int (a0)), some (.int (v2))], [], h) = some (none, r) := by
  intro n
  induction n with
  | zero => intro h w v2 r hp; cases hp
  | succ n ih =>
    intro h w v2 r hp
    unfold p270_L2 at hp
    refine e_iload_n f270_2 rfl ?_
    refine e_bipush (v := 11) f270_3 (by decide) ?_
    by_cases hc1 : (v2) < ((11) : Int32)
    · rw [if_pos hc1] at hp
      refine e_icmp_ge_f f270_5 hc1 ?_
      refine e_aload_n f270_8 rfl ?_
      refine e_getR f270_9 (WF.t w 86 (by decide)) rfl (WF.r (q := 137) w 86 71 (by decide)) ?_
      refine e_iload_n f270_12 rfl ?_
      refine e_lconst (v := 0) f270_13 (by decide) ?_
      by_cases hg2 : (v2) < (0 : Int32) ∨ 11 ≤ (v2).toNatClampNeg
      · rw [if_pos hg2] at hp; cases hp
      rw [if_neg hg2] at hp
      refine e_lastore f270_14 (WF.t w 137 (by decide)) (WF.n w 137 (by decide)) hg2 ?_
      refine e_iinc (ls2 := [some (.ref (86)), some (.int (a0)), some (.int ((v2) + 1))]) f270_15 (by decide) rfl rfl ?_
      refine e_goto f270_18 ?_
      refine ex_weak (ls := [some (.ref (86)), some (.int (a0)), some (.int ((v2) + 1))]) (le2_ok ⟨Or.inr rfl, Or.inr rfl, Or.inr rfl, trivial⟩) ?_
      exact ih (hsL (h) (137) (v2).toNatClampNeg (0)) (w) ((v2) + 1) _ hp
    · rw [if_neg hc1] at hp
      refine e_icmp_ge_t f270_5 hc1 ?_
      refine e_aload_n f270_21 rfl ?_
      refine e_getR f270_22 (WF.t w 86 (by decide)) rfl (WF.r (q := 137) w 86 71 (by decide)) ?_
      refine e_bipush (v := 10) f270_25 (by decide) ?_
      refine e_iload_n f270_27 rfl ?_
      refine e_i2l f270_28 ?_
      by_cases hg3 : (10) < (0 : Int32) ∨ 11 ≤ (10 : Int32).toNatClampNeg
      · rw [if_pos hg3] at hp; cases hp
      rw [if_neg hg3] at hp
      refine e_lastore f270_29 (WF.t w 137 (by decide)) (WF.n w 137 (by decide)) hg3 ?_
      have hp := Option.some.inj hp
      subst hp
      exact e_return f270_30
set_option maxRecDepth 100000 in
set_option maxHeartbeats 4000000 in
theorem p270_L2_w (F : Nat) (a0 : Int32) : ∀ (n : Nat) (h : HS) (w : WF h) (v2 : Int32) (r : HS), p270_L2 F a0 n h v2 = some r → WF r := by
  intro n
  induction n with
  | zero => intro h w v2 r hp; cases hp
  | succ n ih =>
    intro h w v2 r hp
    unfold p270_L2 at hp
    by_cases hc1 : (v2) < ((11) : Int32)
    · rw [if_pos hc1] at hp
      by_cases hg2 : (v2) < (0 : Int32) ∨ 11 ≤ (v2).toNatClampNeg
      · rw [if_pos hg2] at hp; cases hp
      rw [if_neg hg2] at hp
      exact ih (hsL (h) (137) (v2).toNatClampNeg (0)) (w) ((v2) + 1) _ hp
    · rw [if_neg hc1] at hp
      by_cases hg3 : (10) < (0 : Int32) ∨ 11 ≤ (10 : Int32).toNatClampNeg
      · rw [if_pos hg3] at hp; cases hp
      rw [if_neg hg3] at hp
      have hp := Option.some.inj hp
      subst hp
      exact (w)
set_option maxRecDepth 100000 in
set_option maxHeartbeats 4000000 in
theorem p270_ok (d : Nat) (F : Nat) (h : HS) (w : WF h) (a0 : Int32) (r : HS) (hp : p270 F h a0 = some r) : ex (d + 0) 270 (ent 270 [.ref (86), .int (a0)] h) = some (none, r) := by
  rw [show ent 270 [.ref (86), .int (a0)] h = (0, [some (.ref (86)), some (.int (a0)), none], [], h) from by  rfl]
  refine ex_weak (ls := [some (.ref (86)), some (.int (a0)), none]) (le2_ok ⟨Or.inr rfl, Or.inr rfl, Or.inr rfl, trivial⟩) ?_
  unfold p270 at hp
  refine e_iconst (v := 0) f270_0 (by decide) ?_
  refine e_istore_n (ls2 := [some (.ref (86)), some (.int (a0)), some (.int (0))]) f270_1 (Nat.le_of_ble_eq_true rfl) rfl ?_
  refine ex_weak (ls := [some (.ref (86)), some (.int (a0)), some (.int (0))]) (le2_ok ⟨Or.inr rfl, Or.inr rfl, Or.inr rfl, trivial⟩) ?_
  exact p270_L2_ok d F a0 F (h) (w) (0) _ hp
set_option maxRecDepth 100000 in
set_option maxHeartbeats 4000000 in
theorem p270_w (F : Nat) (h : HS) (w : WF h) (a0 : Int32) (r : HS) (hp : p270 F h a0 = some r) : WF r := by
  unfold p270 at hp
  exact p270_L2_w F a0 F (h) (w) (0) _ hp
theorem f271_0 : fetch 271 0 = some (.iload_n 0, 0, 0, 0) := rfl
theorem f271_1 : fetch 271 1 = some (.ifCond .eq 7, 8, 0, 0) := rfl
theorem f271_4 : fetch 271 4 = some (.lconst 1, 0, 0, 0) := rfl
theorem f271_5 : fetch 271 5 = some (.goto 4, 9, 0, 0) := rfl
theorem f271_8 : fetch 271 8 = some (.lconst 0, 0, 0, 0) := rfl
theorem f271_9 : fetch 271 9 = some (.lreturn, 0, 0, 0) := rfl
set_option maxRecDepth 100000 in
set_option maxHeartbeats 4000000 in
theorem p271_ok (d : Nat) (h : HS) (w : WF h) (a0 : Int32) (r : Int64) (hp : p271 h a0 = some r) : ex (d + 0) 271 (ent 271 [.int (a0)] h) = some (some (.long (r)), h) := by
  rw [show ent 271 [.int (a0)] h = (0, [some (.int (a0))], [], h) from by  rfl]
  refine ex_weak (ls := [some (.int (a0))]) (le2_ok ⟨Or.inr rfl, trivial⟩) ?_
  unfold p271 at hp
  refine e_iload_n f271_0 rfl ?_
  by_cases hc1 : (a0) = (0 : Int32)
  · rw [if_pos hc1] at hp
    refine e_if_eq_t f271_1 hc1 ?_
    refine e_lconst (v := 0) f271_8 (by decide) ?_
    have hp := Option.some.inj hp
    subst hp
    exact e_lreturn f271_9
  · rw [if_neg hc1] at hp
    refine e_if_eq_f f271_1 hc1 ?_
    refine e_lconst (v := 1) f271_4 (by decide) ?_
    refine e_goto f271_5 ?_
    have hp := Option.some.inj hp
    subst hp
    exact e_lreturn f271_9
theorem f273_0 : fetch 273 0 = some (.iload_n 0, 0, 0, 0) := rfl
theorem f273_1 : fetch 273 1 = some (.tableswitch 146 3 12 #[55, 59, 63, 146, 67, 82, 97, 112, 127, 142], 0, 0, 0) := rfl
theorem f273_56 : fetch 273 56 = some (.lload_n 1, 0, 0, 0) := rfl
theorem f273_57 : fetch 273 57 = some (.lload_n 3, 0, 0, 0) := rfl
theorem f273_58 : fetch 273 58 = some (.ladd, 0, 0, 0) := rfl
theorem f273_59 : fetch 273 59 = some (.lreturn, 0, 0, 0) := rfl
theorem f273_60 : fetch 273 60 = some (.lload_n 1, 0, 0, 0) := rfl
theorem f273_61 : fetch 273 61 = some (.lload_n 3, 0, 0, 0) := rfl
theorem f273_62 : fetch 273 62 = some (.lsub, 0, 0, 0) := rfl
theorem f273_63 : fetch 273 63 = some (.lreturn, 0, 0, 0) := rfl
theorem f273_64 : fetch 273 64 = some (.lload_n 1, 0, 0, 0) := rfl
theorem f273_65 : fetch 273 65 = some (.lload_n 3, 0, 0, 0) := rfl
theorem f273_66 : fetch 273 66 = some (.lmul, 0, 0, 0) := rfl
theorem f273_67 : fetch 273 67 = some (.lreturn, 0, 0, 0) := rfl
theorem f273_68 : fetch 273 68 = some (.lload_n 1, 0, 0, 0) := rfl
theorem f273_69 : fetch 273 69 = some (.lload_n 3, 0, 0, 0) := rfl
theorem f273_70 : fetch 273 70 = some (.lcmp, 0, 0, 0) := rfl
theorem f273_71 : fetch 273 71 = some (.ifCond .ge 7, 78, 0, 0) := rfl
theorem f273_74 : fetch 273 74 = some (.iconst 1, 0, 0, 0) := rfl
theorem f273_75 : fetch 273 75 = some (.goto 4, 79, 0, 0) := rfl
theorem f273_78 : fetch 273 78 = some (.iconst 0, 0, 0, 0) := rfl
theorem f273_79 : fetch 273 79 = some (.invokestatic 533, 271, 1, 1) := rfl
theorem f273_82 : fetch 273 82 = some (.lreturn, 0, 0, 0) := rfl
theorem f273_83 : fetch 273 83 = some (.lload_n 1, 0, 0, 0) := rfl
theorem f273_84 : fetch 273 84 = some (.lload_n 3, 0, 0, 0) := rfl
theorem f273_85 : fetch 273 85 = some (.lcmp, 0, 0, 0) := rfl
theorem f273_86 : fetch 273 86 = some (.ifCond .gt 7, 93, 0, 0) := rfl
theorem f273_89 : fetch 273 89 = some (.iconst 1, 0, 0, 0) := rfl
theorem f273_90 : fetch 273 90 = some (.goto 4, 94, 0, 0) := rfl
theorem f273_93 : fetch 273 93 = some (.iconst 0, 0, 0, 0) := rfl
theorem f273_94 : fetch 273 94 = some (.invokestatic 533, 271, 1, 1) := rfl
theorem f273_97 : fetch 273 97 = some (.lreturn, 0, 0, 0) := rfl
theorem f273_98 : fetch 273 98 = some (.lload_n 1, 0, 0, 0) := rfl
theorem f273_99 : fetch 273 99 = some (.lload_n 3, 0, 0, 0) := rfl
theorem f273_100 : fetch 273 100 = some (.lcmp, 0, 0, 0) := rfl
theorem f273_101 : fetch 273 101 = some (.ifCond .ne 7, 108, 0, 0) := rfl
theorem f273_104 : fetch 273 104 = some (.iconst 1, 0, 0, 0) := rfl
theorem f273_105 : fetch 273 105 = some (.goto 4, 109, 0, 0) := rfl
theorem f273_108 : fetch 273 108 = some (.iconst 0, 0, 0, 0) := rfl
theorem f273_109 : fetch 273 109 = some (.invokestatic 533, 271, 1, 1) := rfl
theorem f273_112 : fetch 273 112 = some (.lreturn, 0, 0, 0) := rfl
theorem f273_113 : fetch 273 113 = some (.lload_n 1, 0, 0, 0) := rfl
theorem f273_114 : fetch 273 114 = some (.lload_n 3, 0, 0, 0) := rfl
theorem f273_115 : fetch 273 115 = some (.lcmp, 0, 0, 0) := rfl
theorem f273_116 : fetch 273 116 = some (.ifCond .lt 7, 123, 0, 0) := rfl
theorem f273_119 : fetch 273 119 = some (.iconst 1, 0, 0, 0) := rfl
theorem f273_120 : fetch 273 120 = some (.goto 4, 124, 0, 0) := rfl
theorem f273_123 : fetch 273 123 = some (.iconst 0, 0, 0, 0) := rfl
theorem f273_124 : fetch 273 124 = some (.invokestatic 533, 271, 1, 1) := rfl
theorem f273_127 : fetch 273 127 = some (.lreturn, 0, 0, 0) := rfl
theorem f273_128 : fetch 273 128 = some (.lload_n 1, 0, 0, 0) := rfl
theorem f273_129 : fetch 273 129 = some (.lload_n 3, 0, 0, 0) := rfl
theorem f273_130 : fetch 273 130 = some (.lcmp, 0, 0, 0) := rfl
theorem f273_131 : fetch 273 131 = some (.ifCond .le 7, 138, 0, 0) := rfl
theorem f273_134 : fetch 273 134 = some (.iconst 1, 0, 0, 0) := rfl
theorem f273_135 : fetch 273 135 = some (.goto 4, 139, 0, 0) := rfl
theorem f273_138 : fetch 273 138 = some (.iconst 0, 0, 0, 0) := rfl
theorem f273_139 : fetch 273 139 = some (.invokestatic 533, 271, 1, 1) := rfl
theorem f273_142 : fetch 273 142 = some (.lreturn, 0, 0, 0) := rfl
theorem f273_143 : fetch 273 143 = some (.lload_n 1, 0, 0, 0) := rfl
theorem f273_144 : fetch 273 144 = some (.lload_n 3, 0, 0, 0) := rfl
theorem f273_145 : fetch 273 145 = some (.land, 0, 0, 0) := rfl
theorem f273_146 : fetch 273 146 = some (.lreturn, 0, 0, 0) := rfl
theorem f273_147 : fetch 273 147 = some (.lload_n 1, 0, 0, 0) := rfl
theorem f273_148 : fetch 273 148 = some (.lload_n 3, 0, 0, 0) := rfl
theorem f273_149 : fetch 273 149 = some (.lor, 0, 0, 0) := rfl
theorem f273_150 : fetch 273 150 = some (.lreturn, 0, 0, 0) := rfl
set_option maxRecDepth 100000 in
set_option maxHeartbeats 4000000 in
theorem p273_j109_ok (d : Nat) (a0 : Int32) (a1 : Int64) (a2 : Int64) (h : HS) (w : WF h)  (s0 : Int32) (r : Int64) (hp : p273_j109 a0 a1 a2 h s0 = some r) : ex (d + 1) 273 (109, [none, none, none, none, none], [.int (s0)], h) = some (some (.long (r)), h) := by
  unfold p273_j109 at hp
  obtain ⟨r21, hr22, hp⟩ := bind_some hp
  try dsimp only at hp
  refine e_callS (st := []) (as := [.int (s0)]) f273_109 (by decide) rfl rfl (Nat.le_of_ble_eq_true rfl) (Nat.le_of_ble_eq_true rfl) (p271_ok d (h) w (s0) r21 hr22) ?_
  show ex _ 273 (112, [none, none, none, none, none], [.long (r21)], h) = _
  have hp := Option.some.inj hp
  subst hp
  exact e_lreturn f273_112
set_option maxRecDepth 100000 in
set_option maxHeartbeats 4000000 in
theorem p273_j124_ok (d : Nat) (a0 : Int32) (a1 : Int64) (a2 : Int64) (h : HS) (w : WF h)  (s0 : Int32) (r : Int64) (hp : p273_j124 a0 a1 a2 h s0 = some r) : ex (d + 1) 273 (124, [none, none, none, none, none], [.int (s0)], h) = some (some (.long (r)), h) := by
  unfold p273_j124 at hp
  obtain ⟨r23, hr24, hp⟩ := bind_some hp
  try dsimp only at hp
  refine e_callS (st := []) (as := [.int (s0)]) f273_124 (by decide) rfl rfl (Nat.le_of_ble_eq_true rfl) (Nat.le_of_ble_eq_true rfl) (p271_ok d (h) w (s0) r23 hr24) ?_
  show ex _ 273 (127, [none, none, none, none, none], [.long (r23)], h) = _
  have hp := Option.some.inj hp
  subst hp
  exact e_lreturn f273_127
set_option maxRecDepth 100000 in
set_option maxHeartbeats 4000000 in
theorem p273_j139_ok (d : Nat) (a0 : Int32) (a1 : Int64) (a2 : Int64) (h : HS) (w : WF h)  (s0 : Int32) (r : Int64) (hp : p273_j139 a0 a1 a2 h s0 = some r) : ex (d + 1) 273 (139, [none, none, none, none, none], [.int (s0)], h) = some (some (.long (r)), h) := by
  unfold p273_j139 at hp
  obtain ⟨r25, hr26, hp⟩ := bind_some hp
  try dsimp only at hp
  refine e_callS (st := []) (as := [.int (s0)]) f273_139 (by decide) rfl rfl (Nat.le_of_ble_eq_true rfl) (Nat.le_of_ble_eq_true rfl) (p271_ok d (h) w (s0) r25 hr26) ?_
  show ex _ 273 (142, [none, none, none, none, none], [.long (r25)], h) = _
  have hp := Option.some.inj hp
  subst hp
  exact e_lreturn f273_142
set_option maxRecDepth 100000 in
set_option maxHeartbeats 4000000 in
theorem p273_j79_ok (d : Nat) (a0 : Int32) (a1 : Int64) (a2 : Int64) (h : HS) (w : WF h)  (s0 : Int32) (r : Int64) (hp : p273_j79 a0 a1 a2 h s0 = some r) : ex (d + 1) 273 (79, [none, none, none, none, none], [.int (s0)], h) = some (some (.long (r)), h) := by
  unfold p273_j79 at hp
  obtain ⟨r17, hr18, hp⟩ := bind_some hp
  try dsimp only at hp
  refine e_callS (st := []) (as := [.int (s0)]) f273_79 (by decide) rfl rfl (Nat.le_of_ble_eq_true rfl) (Nat.le_of_ble_eq_true rfl) (p271_ok d (h) w (s0) r17 hr18) ?_
  show ex _ 273 (82, [none, none, none, none, none], [.long (r17)], h) = _
  have hp := Option.some.inj hp
  subst hp
  exact e_lreturn f273_82
set_option maxRecDepth 100000 in
set_option maxHeartbeats 4000000 in
theorem p273_j94_ok (d : Nat) (a0 : Int32) (a1 : Int64) (a2 : Int64) (h : HS) (w : WF h)  (s0 : Int32) (r : Int64) (hp : p273_j94 a0 a1 a2 h s0 = some r) : ex (d + 1) 273 (94, [none, none, none, none, none], [.int (s0)], h) = some (some (.long (r)), h) := by
  unfold p273_j94 at hp
  obtain ⟨r19, hr20, hp⟩ := bind_some hp
  try dsimp only at hp
  refine e_callS (st := []) (as := [.int (s0)]) f273_94 (by decide) rfl rfl (Nat.le_of_ble_eq_true rfl) (Nat.le_of_ble_eq_true rfl) (p271_ok d (h) w (s0) r19 hr20) ?_
  show ex _ 273 (97, [none, none, none, none, none], [.long (r19)], h) = _
  have hp := Option.some.inj hp
  subst hp
  exact e_lreturn f273_97
set_option maxRecDepth 100000 in
set_option maxHeartbeats 4000000 in
theorem p273_ok (d : Nat) (h : HS) (w : WF h) (a0 : Int32) (a1 : Int64) (a2 : Int64) (r : Int64) (hp : p273 h a0 a1 a2 = some r) : ex (d + 1) 273 (ent 273 [.int (a0), .long (a1), .long (a2)] h) = some (some (.long (r)), h) := by
  rw [show ent 273 [.int (a0), .long (a1), .long (a2)] h = (0, [some (.int (a0)), some (.long (a1)), none, some (.long (a2)), none], [], h) from by  rfl]
  refine ex_weak (ls := [some (.int (a0)), some (.long (a1)), none, some (.long (a2)), none]) (le2_ok ⟨Or.inr rfl, Or.inr rfl, Or.inr rfl, Or.inr rfl, Or.inr rfl, trivial⟩) ?_
  unfold p273 at hp
  refine e_iload_n f273_0 rfl ?_
  by_cases hc1 : (a0) = (3 : Int32)
  · rw [if_pos hc1] at hp
    refine e_sw (t := 56) f273_1 (by rw [hc1]; decide) (by rw [hc1]; decide) ?_
    refine e_lload_n f273_56 rfl ?_
    refine e_lload_n f273_57 rfl ?_
    refine e_ladd f273_58 ?_
    have hp := Option.some.inj hp
    subst hp
    exact e_lreturn f273_59
  rw [if_neg hc1] at hp
  by_cases hc2 : (a0) = (4 : Int32)
  · rw [if_pos hc2] at hp
    refine e_sw (t := 60) f273_1 (by rw [hc2]; decide) (by rw [hc2]; decide) ?_
    refine e_lload_n f273_60 rfl ?_
    refine e_lload_n f273_61 rfl ?_
    refine e_lsub f273_62 ?_
    have hp := Option.some.inj hp
    subst hp
    exact e_lreturn f273_63
  rw [if_neg hc2] at hp
  by_cases hc3 : (a0) = (5 : Int32)
  · rw [if_pos hc3] at hp
    refine e_sw (t := 64) f273_1 (by rw [hc3]; decide) (by rw [hc3]; decide) ?_
    refine e_lload_n f273_64 rfl ?_
    refine e_lload_n f273_65 rfl ?_
    refine e_lmul f273_66 ?_
    have hp := Option.some.inj hp
    subst hp
    exact e_lreturn f273_67
  rw [if_neg hc3] at hp
  by_cases hc4 : (a0) = (6 : Int32)
  · rw [if_pos hc4] at hp
    refine e_sw (t := 147) f273_1 (by rw [hc4]; decide) (by rw [hc4]; decide) ?_
    refine e_lload_n f273_147 rfl ?_
    refine e_lload_n f273_148 rfl ?_
    refine e_lor f273_149 ?_
    have hp := Option.some.inj hp
    subst hp
    exact e_lreturn f273_150
  rw [if_neg hc4] at hp
  by_cases hc5 : (a0) = (7 : Int32)
  · rw [if_pos hc5] at hp
    refine e_sw (t := 68) f273_1 (by rw [hc5]; decide) (by rw [hc5]; decide) ?_
    refine e_lload_n f273_68 rfl ?_
    refine e_lload_n f273_69 rfl ?_
    refine e_lcmp f273_70 ?_
    by_cases hc6 : (lg_cmp (a1) (a2)) < (0 : Int32)
    · rw [if_pos hc6] at hp
      refine e_if_ge_f f273_71 hc6 ?_
      refine e_iconst (v := 1) f273_74 (by decide) ?_
      refine e_goto f273_75 ?_
      refine ex_weak (ls := [none, none, none, none, none]) (le2_ok ⟨Or.inl rfl, Or.inl rfl, Or.inl rfl, Or.inl rfl, Or.inl rfl, trivial⟩) ?_
      exact p273_j79_ok d a0 a1 a2 (h) (w) (1) _ hp
    · rw [if_neg hc6] at hp
      refine e_if_ge_t f273_71 hc6 ?_
      refine e_iconst (v := 0) f273_78 (by decide) ?_
      refine ex_weak (ls := [none, none, none, none, none]) (le2_ok ⟨Or.inl rfl, Or.inl rfl, Or.inl rfl, Or.inl rfl, Or.inl rfl, trivial⟩) ?_
      exact p273_j79_ok d a0 a1 a2 (h) (w) (0) _ hp
  rw [if_neg hc5] at hp
  by_cases hc7 : (a0) = (8 : Int32)
  · rw [if_pos hc7] at hp
    refine e_sw (t := 83) f273_1 (by rw [hc7]; decide) (by rw [hc7]; decide) ?_
    refine e_lload_n f273_83 rfl ?_
    refine e_lload_n f273_84 rfl ?_
    refine e_lcmp f273_85 ?_
    by_cases hc8 : (0 : Int32) < (lg_cmp (a1) (a2))
    · rw [if_pos hc8] at hp
      refine e_if_gt_t f273_86 hc8 ?_
      refine e_iconst (v := 0) f273_93 (by decide) ?_
      refine ex_weak (ls := [none, none, none, none, none]) (le2_ok ⟨Or.inl rfl, Or.inl rfl, Or.inl rfl, Or.inl rfl, Or.inl rfl, trivial⟩) ?_
      exact p273_j94_ok d a0 a1 a2 (h) (w) (0) _ hp
    · rw [if_neg hc8] at hp
      refine e_if_gt_f f273_86 hc8 ?_
      refine e_iconst (v := 1) f273_89 (by decide) ?_
      refine e_goto f273_90 ?_
      refine ex_weak (ls := [none, none, none, none, none]) (le2_ok ⟨Or.inl rfl, Or.inl rfl, Or.inl rfl, Or.inl rfl, Or.inl rfl, trivial⟩) ?_
      exact p273_j94_ok d a0 a1 a2 (h) (w) (1) _ hp
  rw [if_neg hc7] at hp
  by_cases hc9 : (a0) = (9 : Int32)
  · rw [if_pos hc9] at hp
    refine e_sw (t := 98) f273_1 (by rw [hc9]; decide) (by rw [hc9]; decide) ?_
    refine e_lload_n f273_98 rfl ?_
    refine e_lload_n f273_99 rfl ?_
    refine e_lcmp f273_100 ?_
    by_cases hc10 : (lg_cmp (a1) (a2)) = (0 : Int32)
    · rw [if_pos hc10] at hp
      refine e_if_ne_f f273_101 hc10 ?_
      refine e_iconst (v := 1) f273_104 (by decide) ?_
      refine e_goto f273_105 ?_
      refine ex_weak (ls := [none, none, none, none, none]) (le2_ok ⟨Or.inl rfl, Or.inl rfl, Or.inl rfl, Or.inl rfl, Or.inl rfl, trivial⟩) ?_
      exact p273_j109_ok d a0 a1 a2 (h) (w) (1) _ hp
    · rw [if_neg hc10] at hp
      refine e_if_ne_t f273_101 hc10 ?_
      refine e_iconst (v := 0) f273_108 (by decide) ?_
      refine ex_weak (ls := [none, none, none, none, none]) (le2_ok ⟨Or.inl rfl, Or.inl rfl, Or.inl rfl, Or.inl rfl, Or.inl rfl, trivial⟩) ?_
      exact p273_j109_ok d a0 a1 a2 (h) (w) (0) _ hp
  rw [if_neg hc9] at hp
  by_cases hc11 : (a0) = (10 : Int32)
  · rw [if_pos hc11] at hp
    refine e_sw (t := 113) f273_1 (by rw [hc11]; decide) (by rw [hc11]; decide) ?_
    refine e_lload_n f273_113 rfl ?_
    refine e_lload_n f273_114 rfl ?_
    refine e_lcmp f273_115 ?_
    by_cases hc12 : (lg_cmp (a1) (a2)) < (0 : Int32)
    · rw [if_pos hc12] at hp
      refine e_if_lt_t f273_116 hc12 ?_
      refine e_iconst (v := 0) f273_123 (by decide) ?_
      refine ex_weak (ls := [none, none, none, none, none]) (le2_ok ⟨Or.inl rfl, Or.inl rfl, Or.inl rfl, Or.inl rfl, Or.inl rfl, trivial⟩) ?_
      exact p273_j124_ok d a0 a1 a2 (h) (w) (0) _ hp
    · rw [if_neg hc12] at hp
      refine e_if_lt_f f273_116 hc12 ?_
      refine e_iconst (v := 1) f273_119 (by decide) ?_
      refine e_goto f273_120 ?_
      refine ex_weak (ls := [none, none, none, none, none]) (le2_ok ⟨Or.inl rfl, Or.inl rfl, Or.inl rfl, Or.inl rfl, Or.inl rfl, trivial⟩) ?_
      exact p273_j124_ok d a0 a1 a2 (h) (w) (1) _ hp
  rw [if_neg hc11] at hp
  by_cases hc13 : (a0) = (11 : Int32)
  · rw [if_pos hc13] at hp
    refine e_sw (t := 128) f273_1 (by rw [hc13]; decide) (by rw [hc13]; decide) ?_
    refine e_lload_n f273_128 rfl ?_
    refine e_lload_n f273_129 rfl ?_
    refine e_lcmp f273_130 ?_
    by_cases hc14 : (0 : Int32) < (lg_cmp (a1) (a2))
    · rw [if_pos hc14] at hp
      refine e_if_le_f f273_131 hc14 ?_
      refine e_iconst (v := 1) f273_134 (by decide) ?_
      refine e_goto f273_135 ?_
      refine ex_weak (ls := [none, none, none, none, none]) (le2_ok ⟨Or.inl rfl, Or.inl rfl, Or.inl rfl, Or.inl rfl, Or.inl rfl, trivial⟩) ?_
      exact p273_j139_ok d a0 a1 a2 (h) (w) (1) _ hp
    · rw [if_neg hc14] at hp
      refine e_if_le_t f273_131 hc14 ?_
      refine e_iconst (v := 0) f273_138 (by decide) ?_
      refine ex_weak (ls := [none, none, none, none, none]) (le2_ok ⟨Or.inl rfl, Or.inl rfl, Or.inl rfl, Or.inl rfl, Or.inl rfl, trivial⟩) ?_
      exact p273_j139_ok d a0 a1 a2 (h) (w) (0) _ hp
  rw [if_neg hc13] at hp
  by_cases hc15 : (a0) = (12 : Int32)
  · rw [if_pos hc15] at hp
    refine e_sw (t := 143) f273_1 (by rw [hc15]; decide) (by rw [hc15]; decide) ?_
    refine e_lload_n f273_143 rfl ?_
    refine e_lload_n f273_144 rfl ?_
    refine e_land f273_145 ?_
    have hp := Option.some.inj hp
    subst hp
    exact e_lreturn f273_146
  rw [if_neg hc15] at hp
  have ho16 := sw_out (x := a0) 3 12 (fun j h1 h2 => by
    rcases (show j = 3 ∨ j = 4 ∨ j = 5 ∨ j = 6 ∨ j = 7 ∨ j = 8 ∨ j = 9 ∨ j = 10 ∨ j = 11 ∨ j = 12 by omega) with rfl | rfl | rfl | rfl | rfl | rfl | rfl | rfl | rfl | rfl
    · exact i32_ne hc1 (by decide)
    · exact i32_ne hc2 (by decide)
    · exact i32_ne hc3 (by decide)
    · exact i32_ne hc4 (by decide)
    · exact i32_ne hc5 (by decide)
    · exact i32_ne hc7 (by decide)
    · exact i32_ne hc9 (by decide)
    · exact i32_ne hc11 (by decide)
    · exact i32_ne hc13 (by decide)
    · exact i32_ne hc15 (by decide))
  refine e_sw (t := 147) f273_1 ⟨by rw [swTo, if_pos ho16]; decide, by decide⟩ (by rw [swTo, if_pos ho16]; decide) ?_
  refine e_lload_n f273_147 rfl ?_
  refine e_lload_n f273_148 rfl ?_
  refine e_lor f273_149 ?_
  have hp := Option.some.inj hp
  subst hp
  exact e_lreturn f273_150
theorem f272_0 : fetch 272 0 = some (.iconst 0, 0, 0, 0) := rfl
theorem f272_1 : fetch 272 1 = some (.istore_n 2, 0, 0, 0) := rfl
theorem f272_2 : fetch 272 2 = some (.iload_n 1, 0, 0, 0) := rfl
theorem f272_3 : fetch 272 3 = some (.bipush 12, 0, 0, 0) := rfl
theorem f272_5 : fetch 272 5 = some (.idiv, 0, 0, 0) := rfl
theorem f272_6 : fetch 272 6 = some (.istore_n 3, 0, 0, 0) := rfl
theorem f272_7 : fetch 272 7 = some (.aload_n 0, 0, 0, 0) := rfl
theorem f272_8 : fetch 272 8 = some (.getfield 144, 12, 63, 2) := rfl
theorem f272_11 : fetch 272 11 = some (.iload_n 1, 0, 0, 0) := rfl
theorem f272_12 : fetch 272 12 = some (.iaload, 0, 0, 0) := rfl
theorem f272_13 : fetch 272 13 = some (.istore 4, 0, 0, 0) := rfl
theorem f272_15 : fetch 272 15 = some (.iload 4, 0, 0, 0) := rfl
theorem f272_17 : fetch 272 17 = some (.aload_n 0, 0, 0, 0) := rfl
theorem f272_18 : fetch 272 18 = some (.getfield 147, 12, 64, 2) := rfl
theorem f272_21 : fetch 272 21 = some (.iload_n 1, 0, 0, 0) := rfl
theorem f272_22 : fetch 272 22 = some (.iaload, 0, 0, 0) := rfl
theorem f272_23 : fetch 272 23 = some (.if_icmp .ge 138, 161, 0, 0) := rfl
theorem f272_26 : fetch 272 26 = some (.aload_n 0, 0, 0, 0) := rfl
theorem f272_27 : fetch 272 27 = some (.getfield 150, 12, 65, 2) := rfl
theorem f272_30 : fetch 272 30 = some (.sipush 400, 0, 0, 0) := rfl
theorem f272_33 : fetch 272 33 = some (.iload_n 3, 0, 0, 0) := rfl
theorem f272_34 : fetch 272 34 = some (.imul, 0, 0, 0) := rfl
theorem f272_35 : fetch 272 35 = some (.iload 4, 0, 0, 0) := rfl
theorem f272_37 : fetch 272 37 = some (.iadd, 0, 0, 0) := rfl
theorem f272_38 : fetch 272 38 = some (.iaload, 0, 0, 0) := rfl
theorem f272_39 : fetch 272 39 = some (.istore 5, 0, 0, 0) := rfl
theorem f272_41 : fetch 272 41 = some (.aload_n 0, 0, 0, 0) := rfl
theorem f272_42 : fetch 272 42 = some (.getfield 153, 12, 66, 2) := rfl
theorem f272_45 : fetch 272 45 = some (.sipush 400, 0, 0, 0) := rfl
theorem f272_48 : fetch 272 48 = some (.iload_n 3, 0, 0, 0) := rfl
theorem f272_49 : fetch 272 49 = some (.imul, 0, 0, 0) := rfl
theorem f272_50 : fetch 272 50 = some (.iload 4, 0, 0, 0) := rfl
theorem f272_52 : fetch 272 52 = some (.iadd, 0, 0, 0) := rfl
theorem f272_53 : fetch 272 53 = some (.iaload, 0, 0, 0) := rfl
theorem f272_54 : fetch 272 54 = some (.istore 6, 0, 0, 0) := rfl
theorem f272_56 : fetch 272 56 = some (.iload 5, 0, 0, 0) := rfl
theorem f272_58 : fetch 272 58 = some (.ifCond .eq 9, 67, 0, 0) := rfl
theorem f272_61 : fetch 272 61 = some (.iload 5, 0, 0, 0) := rfl
theorem f272_63 : fetch 272 63 = some (.iconst 1, 0, 0, 0) := rfl
theorem f272_64 : fetch 272 64 = some (.if_icmp .ne 33, 97, 0, 0) := rfl
theorem f272_67 : fetch 272 67 = some (.aload_n 0, 0, 0, 0) := rfl
theorem f272_68 : fetch 272 68 = some (.getfield 159, 12, 70, 2) := rfl
theorem f272_71 : fetch 272 71 = some (.iload_n 2, 0, 0, 0) := rfl
theorem f272_72 : fetch 272 72 = some (.iload 5, 0, 0, 0) := rfl
theorem f272_74 : fetch 272 74 = some (.ifCond .ne 9, 83, 0, 0) := rfl
theorem f272_77 : fetch 272 77 = some (.iload 6, 0, 0, 0) := rfl
theorem f272_79 : fetch 272 79 = some (.i2l, 0, 0, 0) := rfl
theorem f272_80 : fetch 272 80 = some (.goto 10, 90, 0, 0) := rfl
theorem f272_83 : fetch 272 83 = some (.aload_n 0, 0, 0, 0) := rfl
theorem f272_84 : fetch 272 84 = some (.getfield 163, 12, 71, 2) := rfl
theorem f272_87 : fetch 272 87 = some (.iload 6, 0, 0, 0) := rfl
theorem f272_89 : fetch 272 89 = some (.laload, 0, 0, 0) := rfl
theorem f272_90 : fetch 272 90 = some (.lastore, 0, 0, 0) := rfl
theorem f272_91 : fetch 272 91 = some (.iinc 2 1, 0, 0, 0) := rfl
theorem f272_94 : fetch 272 94 = some (.goto 61, 155, 0, 0) := rfl
theorem f272_97 : fetch 272 97 = some (.iload 5, 0, 0, 0) := rfl
theorem f272_99 : fetch 272 99 = some (.bipush 14, 0, 0, 0) := rfl
theorem f272_101 : fetch 272 101 = some (.if_icmp .ne 24, 125, 0, 0) := rfl
theorem f272_104 : fetch 272 104 = some (.aload_n 0, 0, 0, 0) := rfl
theorem f272_105 : fetch 272 105 = some (.getfield 159, 12, 70, 2) := rfl
theorem f272_108 : fetch 272 108 = some (.iload_n 2, 0, 0, 0) := rfl
theorem f272_109 : fetch 272 109 = some (.iconst 1, 0, 0, 0) := rfl
theorem f272_110 : fetch 272 110 = some (.isub, 0, 0, 0) := rfl
theorem f272_111 : fetch 272 111 = some (.lconst 1, 0, 0, 0) := rfl
theorem f272_112 : fetch 272 112 = some (.aload_n 0, 0, 0, 0) := rfl
theorem f272_113 : fetch 272 113 = some (.getfield 159, 12, 70, 2) := rfl
theorem f272_116 : fetch 272 116 = some (.iload_n 2, 0, 0, 0) := rfl
theorem f272_117 : fetch 272 117 = some (.iconst 1, 0, 0, 0) := rfl
theorem f272_118 : fetch 272 118 = some (.isub, 0, 0, 0) := rfl
theorem f272_119 : fetch 272 119 = some (.laload, 0, 0, 0) := rfl
theorem f272_120 : fetch 272 120 = some (.lsub, 0, 0, 0) := rfl
theorem f272_121 : fetch 272 121 = some (.lastore, 0, 0, 0) := rfl
theorem f272_122 : fetch 272 122 = some (.goto 33, 155, 0, 0) := rfl
theorem f272_125 : fetch 272 125 = some (.iinc 2 (-1), 0, 0, 0) := rfl
theorem f272_128 : fetch 272 128 = some (.aload_n 0, 0, 0, 0) := rfl
theorem f272_129 : fetch 272 129 = some (.getfield 159, 12, 70, 2) := rfl
theorem f272_132 : fetch 272 132 = some (.iload_n 2, 0, 0, 0) := rfl
theorem f272_133 : fetch 272 133 = some (.iconst 1, 0, 0, 0) := rfl
theorem f272_134 : fetch 272 134 = some (.isub, 0, 0, 0) := rfl
theorem f272_135 : fetch 272 135 = some (.iload 5, 0, 0, 0) := rfl
theorem f272_137 : fetch 272 137 = some (.aload_n 0, 0, 0, 0) := rfl
theorem f272_138 : fetch 272 138 = some (.getfield 159, 12, 70, 2) := rfl
theorem f272_141 : fetch 272 141 = some (.iload_n 2, 0, 0, 0) := rfl
theorem f272_142 : fetch 272 142 = some (.iconst 1, 0, 0, 0) := rfl
theorem f272_143 : fetch 272 143 = some (.isub, 0, 0, 0) := rfl
theorem f272_144 : fetch 272 144 = some (.laload, 0, 0, 0) := rfl
theorem f272_145 : fetch 272 145 = some (.aload_n 0, 0, 0, 0) := rfl
theorem f272_146 : fetch 272 146 = some (.getfield 159, 12, 70, 2) := rfl
theorem f272_149 : fetch 272 149 = some (.iload_n 2, 0, 0, 0) := rfl
theorem f272_150 : fetch 272 150 = some (.laload, 0, 0, 0) := rfl
theorem f272_151 : fetch 272 151 = some (.invokestatic 529, 273, 3, 1) := rfl
theorem f272_154 : fetch 272 154 = some (.lastore, 0, 0, 0) := rfl
theorem f272_155 : fetch 272 155 = some (.iinc 4 1, 0, 0, 0) := rfl
theorem f272_158 : fetch 272 158 = some (.goto (-143), 15, 0, 0) := rfl
theorem f272_161 : fetch 272 161 = some (.aload_n 0, 0, 0, 0) := rfl
theorem f272_162 : fetch 272 162 = some (.getfield 159, 12, 70, 2) := rfl
theorem f272_165 : fetch 272 165 = some (.iconst 0, 0, 0, 0) := rfl
theorem f272_166 : fetch 272 166 = some (.laload, 0, 0, 0) := rfl
theorem f272_167 : fetch 272 167 = some (.lreturn, 0, 0, 0) := rfl
set_option maxRecDepth 100000 in
set_option maxHeartbeats 4000000 in
theorem p272_j155_ok (d : Nat) (F : Nat) (a0 : Int32) (K15 : HS → Int32 → Int32 → Int32 → Option (Int64 × HS)) (hK15 : ∀ (h : HS) (w : WF h) (u2 : Int32) (u3 : Int32) (u4 : Int32) (r : Int64 × HS), K15 h u2 u3 u4 = some r → ex (d + 2) 272 (15, [some (.ref (86)), some (.int (a0)), some (.int (u2)), some (.int (u3)), some (.int (u4)), none, none], [], h) = some (some (.long (r.1)), r.2)) (h : HS) (w : WF h) (v2 : Int32) (v3 : Int32) (v4 : Int32) (r : Int64 × HS) (hp : p272_j155 F a0 K15 h v2 v3 v4 = some r) : ex (d + 2) 272 (155, [some (.ref (86)), some (.int (a0)), some (.int (v2)), some (.int (v3)), some (.int (v4)), none, none], [], h) = some (some (.long (r.1)), r.2) := by
  unfold p272_j155 at hp
  refine e_iinc (ls2 := [some (.ref (86)), some (.int (a0)), some (.int (v2)), some (.int (v3)), some (.int ((v4) + 1)), none, none]) f272_155 (by decide) rfl rfl ?_
  refine e_goto f272_158 ?_
  refine ex_weak (ls := [some (.ref (86)), some (.int (a0)), some (.int (v2)), some (.int (v3)), some (.int ((v4) + 1)), none, none]) (le2_ok ⟨Or.inr rfl, Or.inr rfl, Or.inr rfl, Or.inr rfl, Or.inr rfl, Or.inl rfl, Or.inl rfl, trivial⟩) ?_
  exact hK15 (h) (w) (v2) (v3) ((v4) + 1) _ hp
set_option maxRecDepth 100000 in
set_option maxHeartbeats 4000000 in
theorem p272_j155_w (F : Nat) (a0 : Int32) (K15 : HS → Int32 → Int32 → Int32 → Option (Int64 × HS)) (hK15 : ∀ (h : HS) (w : WF h) (u2 : Int32) (u3 : Int32) (u4 : Int32) (r : Int64 × HS), K15 h u2 u3 u4 = some r → WF r.2) (h : HS) (w : WF h) (v2 : Int32) (v3 : Int32) (v4 : Int32) (r : Int64 × HS) (hp : p272_j155 F a0 K15 h v2 v3 v4 = some r) : WF r.2 := by
  unfold p272_j155 at hp
  exact hK15 (h) (w) (v2) (v3) ((v4) + 1) _ hp
set_option maxRecDepth 100000 in
set_option maxHeartbeats 4000000 in
theorem p272_j90_ok (d : Nat) (F : Nat) (a0 : Int32) (K15 : HS → Int32 → Int32 → Int32 → Option (Int64 × HS)) (hK15 : ∀ (h : HS) (w : WF h) (u2 : Int32) (u3 : Int32) (u4 : Int32) (r : Int64 × HS), K15 h u2 u3 u4 = some r → ex (d + 2) 272 (15, [some (.ref (86)), some (.int (a0)), some (.int (u2)), some (.int (u3)), some (.int (u4)), none, none], [], h) = some (some (.long (r.1)), r.2)) (h : HS) (w : WF h) (v2 : Int32) (v3 : Int32) (v4 : Int32) (s0 : Int64) (s1 : Int32) (r : Int64 × HS) (hp : p272_j90 F a0 K15 h v2 v3 v4 s0 s1 = some r) : ex (d + 2) 272 (90, [some (.ref (86)), some (.int (a0)), some (.int (v2)), some (.int (v3)), some (.int (v4)), none, none], [.long (s0), .int (s1), .ref (136)], h) = some (some (.long (r.1)), r.2) := by
  unfold p272_j90 at hp
  by_cases hg20 : (s1) < (0 : Int32) ∨ 400 ≤ (s1).toNatClampNeg
  · rw [if_pos hg20] at hp; cases hp
  rw [if_neg hg20] at hp
  refine e_lastore f272_90 (WF.t w 136 (by decide)) (WF.n w 136 (by decide)) hg20 ?_
  refine e_iinc (ls2 := [some (.ref (86)), some (.int (a0)), some (.int ((v2) + 1)), some (.int (v3)), some (.int (v4)), none, none]) f272_91 (by decide) rfl rfl ?_
  refine e_goto f272_94 ?_
  refine ex_weak (ls := [some (.ref (86)), some (.int (a0)), some (.int ((v2) + 1)), some (.int (v3)), some (.int (v4)), none, none]) (le2_ok ⟨Or.inr rfl, Or.inr rfl, Or.inr rfl, Or.inr rfl, Or.inr rfl, Or.inl rfl, Or.inl rfl, trivial⟩) ?_
  exact p272_j155_ok d F a0 (K15) (hK15) (hsL (h) (136) (s1).toNatClampNeg (s0)) (w) ((v2) + 1) (v3) (v4) _ hp
set_option maxRecDepth 100000 in
set_option maxHeartbeats 4000000 in
theorem p272_j90_w (F : Nat) (a0 : Int32) (K15 : HS → Int32 → Int32 → Int32 → Option (Int64 × HS)) (hK15 : ∀ (h : HS) (w : WF h) (u2 : Int32) (u3 : Int32) (u4 : Int32) (r : Int64 × HS), K15 h u2 u3 u4 = some r → WF r.2) (h : HS) (w : WF h) (v2 : Int32) (v3 : Int32) (v4 : Int32) (s0 : Int64) (s1 : Int32) (r : Int64 × HS) (hp : p272_j90 F a0 K15 h v2 v3 v4 s0 s1 = some r) : WF r.2 := by
  unfold p272_j90 at hp
  by_cases hg20 : (s1) < (0 : Int32) ∨ 400 ≤ (s1).toNatClampNeg
  · rw [if_pos hg20] at hp; cases hp
  rw [if_neg hg20] at hp
  exact p272_j155_w F a0 (K15) (hK15) (hsL (h) (136) (s1).toNatClampNeg (s0)) (w) ((v2) + 1) (v3) (v4) _ hp
set_option maxRecDepth 100000 in
set_option maxHeartbeats 4000000 in
theorem p272_j67_ok (d : Nat) (F : Nat) (a0 : Int32) (K15 : HS → Int32 → Int32 → Int32 → Option (Int64 × HS)) (hK15 : ∀ (h : HS) (w : WF h) (u2 : Int32) (u3 : Int32) (u4 : Int32) (r : Int64 × HS), K15 h u2 u3 u4 = some r → ex (d + 2) 272 (15, [some (.ref (86)), some (.int (a0)), some (.int (u2)), some (.int (u3)), some (.int (u4)), none, none], [], h) = some (some (.long (r.1)), r.2)) (h : HS) (w : WF h) (v2 : Int32) (v3 : Int32) (v4 : Int32) (v5 : Int32) (v6 : Int32) (r : Int64 × HS) (hp : p272_j67 F a0 K15 h v2 v3 v4 v5 v6 = some r) : ex (d + 2) 272 (67, [some (.ref (86)), some (.int (a0)), some (.int (v2)), some (.int (v3)), some (.int (v4)), some (.int (v5)), some (.int (v6))], [], h) = some (some (.long (r.1)), r.2) := by
  unfold p272_j67 at hp
  refine e_aload_n f272_67 rfl ?_
  refine e_getR f272_68 (WF.t w 86 (by decide)) rfl (WF.r (q := 136) w 86 70 (by decide)) ?_
  refine e_iload_n f272_71 rfl ?_
  refine e_iload f272_72 rfl ?_
  by_cases hc18 : (v5) = (0 : Int32)
  · rw [if_pos hc18] at hp
    refine e_if_ne_f f272_74 hc18 ?_
    refine e_iload f272_77 rfl ?_
    refine e_i2l f272_79 ?_
    refine e_goto f272_80 ?_
    refine ex_weak (ls := [some (.ref (86)), some (.int (a0)), some (.int (v2)), some (.int (v3)), some (.int (v4)), none, none]) (le2_ok ⟨Or.inr rfl, Or.inr rfl, Or.inr rfl, Or.inr rfl, Or.inr rfl, Or.inl rfl, Or.inl rfl, trivial⟩) ?_
    exact p272_j90_ok d F a0 (K15) (hK15) (h) (w) (v2) (v3) (v4) ((v6).toInt64) (v2) _ hp
  · rw [if_neg hc18] at hp
    refine e_if_ne_t f272_74 hc18 ?_
    refine e_aload_n f272_83 rfl ?_
    refine e_getR f272_84 (WF.t w 86 (by decide)) rfl (WF.r (q := 137) w 86 71 (by decide)) ?_
    refine e_iload f272_87 rfl ?_
    by_cases hg19 : (v6) < (0 : Int32) ∨ 11 ≤ (v6).toNatClampNeg
    · rw [if_pos hg19] at hp; cases hp
    rw [if_neg hg19] at hp
    refine e_laload f272_89 (WF.t w 137 (by decide)) (WF.n w 137 (by decide)) hg19 ?_
    refine ex_weak (ls := [some (.ref (86)), some (.int (a0)), some (.int (v2)), some (.int (v3)), some (.int (v4)), none, none]) (le2_ok ⟨Or.inr rfl, Or.inr rfl, Or.inr rfl, Or.inr rfl, Or.inr rfl, Or.inl rfl, Or.inl rfl, trivial⟩) ?_
    exact p272_j90_ok d F a0 (K15) (hK15) (h) (w) (v2) (v3) (v4) (hL (h) (137) (v6).toNatClampNeg) (v2) _ hp
set_option maxRecDepth 100000 in
set_option maxHeartbeats 4000000 in
theorem p272_j67_w (F : Nat) (a0 : Int32) (K15 : HS → Int32 → Int32 → Int32 → Option (Int64 × HS)) (hK15 : ∀ (h : HS) (w : WF h) (u2 : Int32) (u3 : Int32) (u4 : Int32) (r : Int64 × HS), K15 h u2 u3 u4 = some r → WF r.2) (h : HS) (w : WF h) (v2 : Int32) (v3 : Int32) (v4 : Int32) (v5 : Int32) (v6 : Int32) (r : Int64 × HS) (hp : p272_j67 F a0 K15 h v2 v3 v4 v5 v6 = some r) : WF r.2 := by
  unfold p272_j67 at hp
  by_cases hc18 : (v5) = (0 : Int32)
  · rw [if_pos hc18] at hp
    exact p272_j90_w F a0 (K15) (hK15) (h) (w) (v2) (v3) (v4) ((v6).toInt64) (v2) _ hp
  · rw [if_neg hc18] at hp
    by_cases hg19 : (v6) < (0 : Int32) ∨ 11 ≤ (v6).toNatClampNeg
    · rw [if_pos hg19] at hp; cases hp
    rw [if_neg hg19] at hp
    exact p272_j90_w F a0 (K15) (hK15) (h) (w) (v2) (v3) (v4) (hL (h) (137) (v6).toNatClampNeg) (v2) _ hp
set_option maxRecDepth 100000 in
set_option maxHeartbeats 4000000 in
theorem p272_L15_ok (d : Nat) (F : Nat) (a0 : Int32) : ∀ (n : Nat) (h : HS) (w : WF h) (v2 : Int32) (v3 : Int32) (v4 : Int32) (r : Int64 × HS), p272_L15 F a0 n h v2 v3 v4 = some r → ex (d + 2) 272 (15, [some (.ref (86)), some (.int (a0)), some (.int (v2)), some (.int (v3)), some (.int (v4)), none, none], [], h) = some (some (.long (r.1)), r.2) := by
  intro n
  induction n with
  | zero => intro h w v2 v3 v4 r hp; cases hp
  | succ n ih =>
    intro h w v2 v3 v4 r hp
    unfold p272_L15 at hp
    refine e_iload f272_15 rfl ?_
    refine e_aload_n f272_17 rfl ?_
    refine e_getR f272_18 (WF.t w 86 (by decide)) rfl (WF.r (q := 132) w 86 64 (by decide)) ?_
    refine e_iload_n f272_21 rfl ?_
    by_cases hg3 : (a0) < (0 : Int32) ∨ 240 ≤ (a0).toNatClampNeg
    · rw [if_pos hg3] at hp; cases hp
    rw [if_neg hg3] at hp
    refine e_iaload f272_22 (Or.inl (WF.t w 132 (by decide))) (WF.n w 132 (by decide)) hg3 ?_
    by_cases hc4 : (v4) < ((hI (h) (132) (a0).toNatClampNeg) : Int32)
    · rw [if_pos hc4] at hp
      refine e_icmp_ge_f f272_23 hc4 ?_
      refine e_aload_n f272_26 rfl ?_
      refine e_getR f272_27 (WF.t w 86 (by decide)) rfl (WF.r (q := 133) w 86 65 (by decide)) ?_
      refine e_sipush (v := 400) f272_30 (by decide) ?_
      refine e_iload_n f272_33 rfl ?_
      refine e_imul f272_34 ?_
      refine e_iload f272_35 rfl ?_
      refine e_iadd f272_37 ?_
      by_cases hg5 : (((400) * (v3)) + (v4)) < (0 : Int32) ∨ 8000 ≤ (((400) * (v3)) + (v4)).toNatClampNeg
      · rw [if_pos hg5] at hp; cases hp
      rw [if_neg hg5] at hp
      refine e_iaload f272_38 (Or.inl (WF.t w 133 (by decide))) (WF.n w 133 (by decide)) hg5 ?_
      refine e_istore (ls2 := [some (.ref (86)), some (.int (a0)), some (.int (v2)), some (.int (v3)), some (.int (v4)), some (.int (hI (h) (133) (((400) * (v3)) + (v4)).toNatClampNeg)), none]) f272_39 (Nat.le_of_ble_eq_true rfl) rfl ?_
      refine e_aload_n f272_41 rfl ?_
      refine e_getR f272_42 (WF.t w 86 (by decide)) rfl (WF.r (q := 134) w 86 66 (by decide)) ?_
      refine e_sipush (v := 400) f272_45 (by decide) ?_
      refine e_iload_n f272_48 rfl ?_
      refine e_imul f272_49 ?_
      refine e_iload f272_50 rfl ?_
      refine e_iadd f272_52 ?_
      by_cases hg6 : (((400) * (v3)) + (v4)) < (0 : Int32) ∨ 8000 ≤ (((400) * (v3)) + (v4)).toNatClampNeg
      · rw [if_pos hg6] at hp; cases hp
      rw [if_neg hg6] at hp
      refine e_iaload f272_53 (Or.inl (WF.t w 134 (by decide))) (WF.n w 134 (by decide)) hg6 ?_
      refine e_istore (ls2 := [some (.ref (86)), some (.int (a0)), some (.int (v2)), some (.int (v3)), some (.int (v4)), some (.int (hI (h) (133) (((400) * (v3)) + (v4)).toNatClampNeg)), some (.int (hI (h) (134) (((400) * (v3)) + (v4)).toNatClampNeg))]) f272_54 (Nat.le_of_ble_eq_true rfl) rfl ?_
      refine e_iload f272_56 rfl ?_
      by_cases hc7 : (hI (h) (133) (((400) * (v3)) + (v4)).toNatClampNeg) = (0 : Int32)
      · rw [if_pos hc7] at hp
        refine e_if_eq_t f272_58 hc7 ?_
        refine ex_weak (ls := [some (.ref (86)), some (.int (a0)), some (.int (v2)), some (.int (v3)), some (.int (v4)), some (.int (hI (h) (133) (((400) * (v3)) + (v4)).toNatClampNeg)), some (.int (hI (h) (134) (((400) * (v3)) + (v4)).toNatClampNeg))]) (le2_ok ⟨Or.inr rfl, Or.inr rfl, Or.inr rfl, Or.inr rfl, Or.inr rfl, Or.inr rfl, Or.inr rfl, trivial⟩) ?_
        exact p272_j67_ok d F a0 ((p272_L15 F a0 n)) (ih) (h) (w) (v2) (v3) (v4) (hI (h) (133) (((400) * (v3)) + (v4)).toNatClampNeg) (hI (h) (134) (((400) * (v3)) + (v4)).toNatClampNeg) _ hp
      · rw [if_neg hc7] at hp
        refine e_if_eq_f f272_58 hc7 ?_
        refine e_iload f272_61 rfl ?_
        refine e_iconst (v := 1) f272_63 (by decide) ?_
        by_cases hc8 : (hI (h) (133) (((400) * (v3)) + (v4)).toNatClampNeg) = ((1) : Int32)
        · rw [if_pos hc8] at hp
          refine e_icmp_ne_f f272_64 hc8 ?_
          refine ex_weak (ls := [some (.ref (86)), some (.int (a0)), some (.int (v2)), some (.int (v3)), some (.int (v4)), some (.int (hI (h) (133) (((400) * (v3)) + (v4)).toNatClampNeg)), some (.int (hI (h) (134) (((400) * (v3)) + (v4)).toNatClampNeg))]) (le2_ok ⟨Or.inr rfl, Or.inr rfl, Or.inr rfl, Or.inr rfl, Or.inr rfl, Or.inr rfl, Or.inr rfl, trivial⟩) ?_
          exact p272_j67_ok d F a0 ((p272_L15 F a0 n)) (ih) (h) (w) (v2) (v3) (v4) (hI (h) (133) (((400) * (v3)) + (v4)).toNatClampNeg) (hI (h) (134) (((400) * (v3)) + (v4)).toNatClampNeg) _ hp
        · rw [if_neg hc8] at hp
          refine e_icmp_ne_t f272_64 hc8 ?_
          refine e_iload f272_97 rfl ?_
          refine e_bipush (v := 14) f272_99 (by decide) ?_
          by_cases hc9 : (hI (h) (133) (((400) * (v3)) + (v4)).toNatClampNeg) = ((14) : Int32)
          · rw [if_pos hc9] at hp
            refine e_icmp_ne_f f272_101 hc9 ?_
            refine e_aload_n f272_104 rfl ?_
            refine e_getR f272_105 (WF.t w 86 (by decide)) rfl (WF.r (q := 136) w 86 70 (by decide)) ?_
            refine e_iload_n f272_108 rfl ?_
            refine e_iconst (v := 1) f272_109 (by decide) ?_
            refine e_isub f272_110 ?_
            refine e_lconst (v := 1) f272_111 (by decide) ?_
            refine e_aload_n f272_112 rfl ?_
            refine e_getR f272_113 (WF.t w 86 (by decide)) rfl (WF.r (q := 136) w 86 70 (by decide)) ?_
            refine e_iload_n f272_116 rfl ?_
            refine e_iconst (v := 1) f272_117 (by decide) ?_
            refine e_isub f272_118 ?_
            by_cases hg10 : ((v2) - (1)) < (0 : Int32) ∨ 400 ≤ ((v2) - (1)).toNatClampNeg
            · rw [if_pos hg10] at hp; cases hp
            rw [if_neg hg10] at hp
            refine e_laload f272_119 (WF.t w 136 (by decide)) (WF.n w 136 (by decide)) hg10 ?_
            refine e_lsub f272_120 ?_
            by_cases hg11 : ((v2) - (1)) < (0 : Int32) ∨ 400 ≤ ((v2) - (1)).toNatClampNeg
            · rw [if_pos hg11] at hp; cases hp
            rw [if_neg hg11] at hp
            refine e_lastore f272_121 (WF.t w 136 (by decide)) (WF.n w 136 (by decide)) hg11 ?_
            refine e_goto f272_122 ?_
            refine ex_weak (ls := [some (.ref (86)), some (.int (a0)), some (.int (v2)), some (.int (v3)), some (.int (v4)), none, none]) (le2_ok ⟨Or.inr rfl, Or.inr rfl, Or.inr rfl, Or.inr rfl, Or.inr rfl, Or.inl rfl, Or.inl rfl, trivial⟩) ?_
            exact p272_j155_ok d F a0 ((p272_L15 F a0 n)) (ih) (hsL (h) (136) ((v2) - (1)).toNatClampNeg ((1) - (hL (h) (136) ((v2) - (1)).toNatClampNeg))) (w) (v2) (v3) (v4) _ hp
          · rw [if_neg hc9] at hp
            refine e_icmp_ne_t f272_101 hc9 ?_
            refine e_iinc (ls2 := [some (.ref (86)), some (.int (a0)), some (.int ((v2) + (-1))), some (.int (v3)), some (.int (v4)), some (.int (hI (h) (133) (((400) * (v3)) + (v4)).toNatClampNeg)), some (.int (hI (h) (134) (((400) * (v3)) + (v4)).toNatClampNeg))]) f272_125 (by decide) rfl rfl ?_
            refine e_aload_n f272_128 rfl ?_
            refine e_getR f272_129 (WF.t w 86 (by decide)) rfl (WF.r (q := 136) w 86 70 (by decide)) ?_
            refine e_iload_n f272_132 rfl ?_
            refine e_iconst (v := 1) f272_133 (by decide) ?_
            refine e_isub f272_134 ?_
            refine e_iload f272_135 rfl ?_
            refine e_aload_n f272_137 rfl ?_
            refine e_getR f272_138 (WF.t w 86 (by decide)) rfl (WF.r (q := 136) w 86 70 (by decide)) ?_
            refine e_iload_n f272_141 rfl ?_
            refine e_iconst (v := 1) f272_142 (by decide) ?_
            refine e_isub f272_143 ?_
            by_cases hg12 : (((v2) + (-1)) - (1)) < (0 : Int32) ∨ 400 ≤ (((v2) + (-1)) - (1)).toNatClampNeg
            · rw [if_pos hg12] at hp; cases hp
            rw [if_neg hg12] at hp
            refine e_laload f272_144 (WF.t w 136 (by decide)) (WF.n w 136 (by decide)) hg12 ?_
            refine e_aload_n f272_145 rfl ?_
            refine e_getR f272_146 (WF.t w 86 (by decide)) rfl (WF.r (q := 136) w 86 70 (by decide)) ?_
            refine e_iload_n f272_149 rfl ?_
            by_cases hg13 : ((v2) + (-1)) < (0 : Int32) ∨ 400 ≤ ((v2) + (-1)).toNatClampNeg
            · rw [if_pos hg13] at hp; cases hp
            rw [if_neg hg13] at hp
            refine e_laload f272_150 (WF.t w 136 (by decide)) (WF.n w 136 (by decide)) hg13 ?_
            obtain ⟨r14, hr15, hp⟩ := bind_some hp
            try dsimp only at hp
            refine e_callS (st := [.int (((v2) + (-1)) - (1)), .ref (136)]) (as := [.int (hI (h) (133) (((400) * (v3)) + (v4)).toNatClampNeg), .long (hL (h) (136) (((v2) + (-1)) - (1)).toNatClampNeg), .long (hL (h) (136) ((v2) + (-1)).toNatClampNeg)]) f272_151 (by decide) rfl rfl (Nat.le_of_ble_eq_true rfl) (Nat.le_of_ble_eq_true rfl) (p273_ok d (h) w (hI (h) (133) (((400) * (v3)) + (v4)).toNatClampNeg) (hL (h) (136) (((v2) + (-1)) - (1)).toNatClampNeg) (hL (h) (136) ((v2) + (-1)).toNatClampNeg) r14 hr15) ?_
            show ex _ 272 (154, [some (.ref (86)), some (.int (a0)), some (.int ((v2) + (-1))), some (.int (v3)), some (.int (v4)), some (.int (hI (h) (133) (((400) * (v3)) + (v4)).toNatClampNeg)), some (.int (hI (h) (134) (((400) * (v3)) + (v4)).toNatClampNeg))], [.long (r14), .int (((v2) + (-1)) - (1)), .ref (136)], h) = _
            by_cases hg16 : (((v2) + (-1)) - (1)) < (0 : Int32) ∨ 400 ≤ (((v2) + (-1)) - (1)).toNatClampNeg
            · rw [if_pos hg16] at hp; cases hp
            rw [if_neg hg16] at hp
            refine e_lastore f272_154 (WF.t w 136 (by decide)) (WF.n w 136 (by decide)) hg16 ?_
            refine ex_weak (ls := [some (.ref (86)), some (.int (a0)), some (.int ((v2) + (-1))), some (.int (v3)), some (.int (v4)), none, none]) (le2_ok ⟨Or.inr rfl, Or.inr rfl, Or.inr rfl, Or.inr rfl, Or.inr rfl, Or.inl rfl, Or.inl rfl, trivial⟩) ?_
            exact p272_j155_ok d F a0 ((p272_L15 F a0 n)) (ih) (hsL (h) (136) (((v2) + (-1)) - (1)).toNatClampNeg (r14)) (w) ((v2) + (-1)) (v3) (v4) _ hp
    · rw [if_neg hc4] at hp
      refine e_icmp_ge_t f272_23 hc4 ?_
      refine e_aload_n f272_161 rfl ?_
      refine e_getR f272_162 (WF.t w 86 (by decide)) rfl (WF.r (q := 136) w 86 70 (by decide)) ?_
      refine e_iconst (v := 0) f272_165 (by decide) ?_
      by_cases hg17 : (0) < (0 : Int32) ∨ 400 ≤ (0 : Int32).toNatClampNeg
      · rw [if_pos hg17] at hp; cases hp
      rw [if_neg hg17] at hp
      refine e_laload f272_166 (WF.t w 136 (by decide)) (WF.n w 136 (by decide)) hg17 ?_
      have hp := Option.some.inj hp
      subst hp
      exact e_lreturn f272_167
set_option maxRecDepth 100000 in
set_option maxHeartbeats 4000000 in
theorem p272_L15_w (F : Nat) (a0 : Int32) : ∀ (n : Nat) (h : HS) (w : WF h) (v2 : Int32) (v3 : Int32) (v4 : Int32) (r : Int64 × HS), p272_L15 F a0 n h v2 v3 v4 = some r → WF r.2 := by
  intro n
  induction n with
  | zero => intro h w v2 v3 v4 r hp; cases hp
  | succ n ih =>
    intro h w v2 v3 v4 r hp
    unfold p272_L15 at hp
    by_cases hg3 : (a0) < (0 : Int32) ∨ 240 ≤ (a0).toNatClampNeg
    · rw [if_pos hg3] at hp; cases hp
    rw [if_neg hg3] at hp
    by_cases hc4 : (v4) < ((hI (h) (132) (a0).toNatClampNeg) : Int32)
    · rw [if_pos hc4] at hp
      by_cases hg5 : (((400) * (v3)) + (v4)) < (0 : Int32) ∨ 8000 ≤ (((400) * (v3)) + (v4)).toNatClampNeg
      · rw [if_pos hg5] at hp; cases hp
      rw [if_neg hg5] at hp
      by_cases hg6 : (((400) * (v3)) + (v4)) < (0 : Int32) ∨ 8000 ≤ (((400) * (v3)) + (v4)).toNatClampNeg
      · rw [if_pos hg6] at hp; cases hp
      rw [if_neg hg6] at hp
      by_cases hc7 : (hI (h) (133) (((400) * (v3)) + (v4)).toNatClampNeg) = (0 : Int32)
      · rw [if_pos hc7] at hp
        exact p272_j67_w F a0 ((p272_L15 F a0 n)) (ih) (h) (w) (v2) (v3) (v4) (hI (h) (133) (((400) * (v3)) + (v4)).toNatClampNeg) (hI (h) (134) (((400) * (v3)) + (v4)).toNatClampNeg) _ hp
      · rw [if_neg hc7] at hp
        by_cases hc8 : (hI (h) (133) (((400) * (v3)) + (v4)).toNatClampNeg) = ((1) : Int32)
        · rw [if_pos hc8] at hp
          exact p272_j67_w F a0 ((p272_L15 F a0 n)) (ih) (h) (w) (v2) (v3) (v4) (hI (h) (133) (((400) * (v3)) + (v4)).toNatClampNeg) (hI (h) (134) (((400) * (v3)) + (v4)).toNatClampNeg) _ hp
        · rw [if_neg hc8] at hp
          by_cases hc9 : (hI (h) (133) (((400) * (v3)) + (v4)).toNatClampNeg) = ((14) : Int32)
          · rw [if_pos hc9] at hp
            by_cases hg10 : ((v2) - (1)) < (0 : Int32) ∨ 400 ≤ ((v2) - (1)).toNatClampNeg
            · rw [if_pos hg10] at hp; cases hp
            rw [if_neg hg10] at hp
            by_cases hg11 : ((v2) - (1)) < (0 : Int32) ∨ 400 ≤ ((v2) - (1)).toNatClampNeg
            · rw [if_pos hg11] at hp; cases hp
            rw [if_neg hg11] at hp
            exact p272_j155_w F a0 ((p272_L15 F a0 n)) (ih) (hsL (h) (136) ((v2) - (1)).toNatClampNeg ((1) - (hL (h) (136) ((v2) - (1)).toNatClampNeg))) (w) (v2) (v3) (v4) _ hp
          · rw [if_neg hc9] at hp
            by_cases hg12 : (((v2) + (-1)) - (1)) < (0 : Int32) ∨ 400 ≤ (((v2) + (-1)) - (1)).toNatClampNeg
            · rw [if_pos hg12] at hp; cases hp
            rw [if_neg hg12] at hp
            by_cases hg13 : ((v2) + (-1)) < (0 : Int32) ∨ 400 ≤ ((v2) + (-1)).toNatClampNeg
            · rw [if_pos hg13] at hp; cases hp
            rw [if_neg hg13] at hp
            obtain ⟨r14, hr15, hp⟩ := bind_some hp
            try dsimp only at hp
            by_cases hg16 : (((v2) + (-1)) - (1)) < (0 : Int32) ∨ 400 ≤ (((v2) + (-1)) - (1)).toNatClampNeg
            · rw [if_pos hg16] at hp; cases hp
            rw [if_neg hg16] at hp
            exact p272_j155_w F a0 ((p272_L15 F a0 n)) (ih) (hsL (h) (136) (((v2) + (-1)) - (1)).toNatClampNeg (r14)) (w) ((v2) + (-1)) (v3) (v4) _ hp
    · rw [if_neg hc4] at hp
      by_cases hg17 : (0) < (0 : Int32) ∨ 400 ≤ (0 : Int32).toNatClampNeg
      · rw [if_pos hg17] at hp; cases hp
      rw [if_neg hg17] at hp
      have hp := Option.some.inj hp
      subst hp
      exact (w)
set_option maxRecDepth 100000 in
set_option maxHeartbeats 4000000 in
theorem p272_ok (d : Nat) (F : Nat) (h : HS) (w : WF h) (a0 : Int32) (r : Int64 × HS) (hp : p272 F h a0 = some r) : ex (d + 2) 272 (ent 272 [.ref (86), .int (a0)] h) = some (some (.long (r.1)), r.2) := by
  rw [show ent 272 [.ref (86), .int (a0)] h = (0, [some (.ref (86)), some (.int (a0)), none, none, none, none, none], [], h) from by  rfl]
  refine ex_weak (ls := [some (.ref (86)), some (.int (a0)), none, none, none, none, none]) (le2_ok ⟨Or.inr rfl, Or.inr rfl, Or.inr rfl, Or.inr rfl, Or.inr rfl, Or.inr rfl, Or.inr rfl, trivial⟩) ?_
  unfold p272 at hp
  refine e_iconst (v := 0) f272_0 (by decide) ?_
  refine e_istore_n (ls2 := [some (.ref (86)), some (.int (a0)), some (.int (0)), none, none, none, none]) f272_1 (Nat.le_of_ble_eq_true rfl) rfl ?_
  refine e_iload_n f272_2 rfl ?_
  refine e_bipush (v := 12) f272_3 (by decide) ?_
  by_cases hg1 : (12) = (0 : Int32)
  · rw [if_pos hg1] at hp; cases hp
  rw [if_neg hg1] at hp
  refine e_idiv f272_5 hg1 ?_
  refine e_istore_n (ls2 := [some (.ref (86)), some (.int (a0)), some (.int (0)), some (.int ((a0) / (12))), none, none, none]) f272_6 (Nat.le_of_ble_eq_true rfl) rfl ?_
  refine e_aload_n f272_7 rfl ?_
  refine e_getR f272_8 (WF.t w 86 (by decide)) rfl (WF.r (q := 131) w 86 63 (by decide)) ?_
  refine e_iload_n f272_11 rfl ?_
  by_cases hg2 : (a0) < (0 : Int32) ∨ 240 ≤ (a0).toNatClampNeg
  · rw [if_pos hg2] at hp; cases hp
  rw [if_neg hg2] at hp
  refine e_iaload f272_12 (Or.inl (WF.t w 131 (by decide))) (WF.n w 131 (by decide)) hg2 ?_
  refine e_istore (ls2 := [some (.ref (86)), some (.int (a0)), some (.int (0)), some (.int ((a0) / (12))), some (.int (hI (h) (131) (a0).toNatClampNeg)), none, none]) f272_13 (Nat.le_of_ble_eq_true rfl) rfl ?_
  refine ex_weak (ls := [some (.ref (86)), some (.int (a0)), some (.int (0)), some (.int ((a0) / (12))), some (.int (hI (h) (131) (a0).toNatClampNeg)), none, none]) (le2_ok ⟨Or.inr rfl, Or.inr rfl, Or.inr rfl, Or.inr rfl, Or.inr rfl, Or.inl rfl, Or.inl rfl, trivial⟩) ?_
  exact p272_L15_ok d F a0 F (h) (w) (0) ((a0) / (12)) (hI (h) (131) (a0).toNatClampNeg) _ hp
set_option maxRecDepth 100000 in
set_option maxHeartbeats 4000000 in
theorem p272_w (F : Nat) (h : HS) (w : WF h) (a0 : Int32) (r : Int64 × HS) (hp : p272 F h a0 = some r) : WF r.2 := by
  unfold p272 at hp
  by_cases hg1 : (12) = (0 : Int32)
  · rw [if_pos hg1] at hp; cases hp
  rw [if_neg hg1] at hp
  by_cases hg2 : (a0) < (0 : Int32) ∨ 240 ≤ (a0).toNatClampNeg
  · rw [if_pos hg2] at hp; cases hp
  rw [if_neg hg2] at hp
  exact p272_L15_w F a0 F (h) (w) (0) ((a0) / (12)) (hI (h) (131) (a0).toNatClampNeg) _ hp
theorem f274_0 : fetch 274 0 = some (.iconst 0, 0, 0, 0) := rfl
theorem f274_1 : fetch 274 1 = some (.istore_n 3, 0, 0, 0) := rfl
theorem f274_2 : fetch 274 2 = some (.iload_n 1, 0, 0, 0) := rfl
theorem f274_3 : fetch 274 3 = some (.iconst (-1), 0, 0, 0) := rfl
theorem f274_4 : fetch 274 4 = some (.if_icmp .eq 57, 61, 0, 0) := rfl
theorem f274_7 : fetch 274 7 = some (.iload_n 3, 0, 0, 0) := rfl
theorem f274_8 : fetch 274 8 = some (.aload_n 0, 0, 0, 0) := rfl
theorem f274_9 : fetch 274 9 = some (.getfield 135, 12, 60, 2) := rfl
theorem f274_12 : fetch 274 12 = some (.iload_n 1, 0, 0, 0) := rfl
theorem f274_13 : fetch 274 13 = some (.iaload, 0, 0, 0) := rfl
theorem f274_14 : fetch 274 14 = some (.if_icmp .ge 47, 61, 0, 0) := rfl
theorem f274_17 : fetch 274 17 = some (.bipush 12, 0, 0, 0) := rfl
theorem f274_19 : fetch 274 19 = some (.iload_n 1, 0, 0, 0) := rfl
theorem f274_20 : fetch 274 20 = some (.imul, 0, 0, 0) := rfl
theorem f274_21 : fetch 274 21 = some (.iload_n 3, 0, 0, 0) := rfl
theorem f274_22 : fetch 274 22 = some (.iadd, 0, 0, 0) := rfl
theorem f274_23 : fetch 274 23 = some (.istore 4, 0, 0, 0) := rfl
theorem f274_25 : fetch 274 25 = some (.aload_n 0, 0, 0, 0) := rfl
theorem f274_26 : fetch 274 26 = some (.getfield 138, 12, 61, 2) := rfl
theorem f274_29 : fetch 274 29 = some (.iload 4, 0, 0, 0) := rfl
theorem f274_31 : fetch 274 31 = some (.iaload, 0, 0, 0) := rfl
theorem f274_32 : fetch 274 32 = some (.iload_n 2, 0, 0, 0) := rfl
theorem f274_33 : fetch 274 33 = some (.if_icmp .ne 22, 55, 0, 0) := rfl
theorem f274_36 : fetch 274 36 = some (.iload_n 2, 0, 0, 0) := rfl
theorem f274_37 : fetch 274 37 = some (.iconst 2, 0, 0, 0) := rfl
theorem f274_38 : fetch 274 38 = some (.if_icmp .eq 14, 52, 0, 0) := rfl
theorem f274_41 : fetch 274 41 = some (.aload_n 0, 0, 0, 0) := rfl
theorem f274_42 : fetch 274 42 = some (.iload 4, 0, 0, 0) := rfl
theorem f274_44 : fetch 274 44 = some (.invokevirtual 537, 272, 1, 0) := rfl
theorem f274_47 : fetch 274 47 = some (.lconst 1, 0, 0, 0) := rfl
theorem f274_48 : fetch 274 48 = some (.lcmp, 0, 0, 0) := rfl
theorem f274_49 : fetch 274 49 = some (.ifCond .ne 6, 55, 0, 0) := rfl
theorem f274_52 : fetch 274 52 = some (.iload 4, 0, 0, 0) := rfl
theorem f274_54 : fetch 274 54 = some (.ireturn, 0, 0, 0) := rfl
theorem f274_55 : fetch 274 55 = some (.iinc 3 1, 0, 0, 0) := rfl
theorem f274_58 : fetch 274 58 = some (.goto (-56), 2, 0, 0) := rfl
theorem f274_61 : fetch 274 61 = some (.iconst (-1), 0, 0, 0) := rfl
theorem f274_62 : fetch 274 62 = some (.ireturn, 0, 0, 0) := rfl
set_option maxRecDepth 100000 in
set_option maxHeartbeats 4000000 in
theorem p274_j55_ok (d : Nat) (F : Nat) (a0 : Int32) (a1 : Int32) (K2 : HS → Int32 → Option (Int32 × HS)) (hK2 : ∀ (h : HS) (w : WF h) (u3 : Int32) (r : Int32 × HS), K2 h u3 = some r → ex (d + 3) 274 (2, [some (.ref (86)), some (.int (a0)), some (.int (a1)), some (.int (u3)), none], [], h) = some (some (.int (r.1)), r.2)) (h : HS) (w : WF h) (v3 : Int32) (r : Int32 × HS) (hp : p274_j55 F a0 a1 K2 h v3 = some r) : ex (d + 3) 274 (55, [some (.ref (86)), some (.int (a0)), some (.int (a1)), some (.int (v3)), none], [], h) = some (some (.int (r.1)), r.2) := by
  unfold p274_j55 at hp
  refine e_iinc (ls2 := [some (.ref (86)), some (.int (a0)), some (.int (a1)), some (.int ((v3) + 1)), none]) f274_55 (by decide) rfl rfl ?_
  refine e_goto f274_58 ?_
  refine ex_weak (ls := [some (.ref (86)), some (.int (a0)), some (.int (a1)), some (.int ((v3) + 1)), none]) (le2_ok ⟨Or.inr rfl, Or.inr rfl, Or.inr rfl, Or.inr rfl, Or.inl rfl, trivial⟩) ?_
  exact hK2 (h) (w) ((v3) + 1) _ hp
set_option maxRecDepth 100000 in
set_option maxHeartbeats 4000000 in
theorem p274_j55_w (F : Nat) (a0 : Int32) (a1 : Int32) (K2 : HS → Int32 → Option (Int32 × HS)) (hK2 : ∀ (h : HS) (w : WF h) (u3 : Int32) (r : Int32 × HS), K2 h u3 = some r → WF r.2) (h : HS) (w : WF h) (v3 : Int32) (r : Int32 × HS) (hp : p274_j55 F a0 a1 K2 h v3 = some r) : WF r.2 := by
  unfold p274_j55 at hp
  exact hK2 (h) (w) ((v3) + 1) _ hp
set_option maxRecDepth 100000 in
set_option maxHeartbeats 4000000 in
theorem p274_L2_ok (d : Nat) (F : Nat) (a0 : Int32) (a1 : Int32) : ∀ (n : Nat) (h : HS) (w : WF h) (v3 : Int32) (r : Int32 × HS), p274_L2 F a0 a1 n h v3 = some r → ex (d + 3) 274 (2, [some (.ref (86)), some (.int (a0)), some (.int (a1)), some (.int (v3)), none], [], h) = some (some (.int (r.1)), r.2) := by
  intro n
  induction n with
  | zero => intro h w v3 r hp; cases hp
  | succ n ih =>
    intro h w v3 r hp
    unfold p274_L2 at hp
    refine e_iload_n f274_2 rfl ?_
    refine e_iconst (v := -1) f274_3 (by decide) ?_
    by_cases hc1 : (a0) = (((-1)) : Int32)
    · rw [if_pos hc1] at hp
      refine e_icmp_eq_t f274_4 hc1 ?_
      refine e_iconst (v := -1) f274_61 (by decide) ?_
      have hp := Option.some.inj hp
      subst hp
      exact e_ireturn f274_62 (Or.inl rfl)
    · rw [if_neg hc1] at hp
      refine e_icmp_eq_f f274_4 hc1 ?_
      refine e_iload_n f274_7 rfl ?_
      refine e_aload_n f274_8 rfl ?_
      refine e_getR f274_9 (WF.t w 86 (by decide)) rfl (WF.r (q := 128) w 86 60 (by decide)) ?_
      refine e_iload_n f274_12 rfl ?_
      by_cases hg2 : (a0) < (0 : Int32) ∨ 20 ≤ (a0).toNatClampNeg
      · rw [if_pos hg2] at hp; cases hp
      rw [if_neg hg2] at hp
      refine e_iaload f274_13 (Or.inl (WF.t w 128 (by decide))) (WF.n w 128 (by decide)) hg2 ?_
      by_cases hc3 : (v3) < ((hI (h) (128) (a0).toNatClampNeg) : Int32)
      · rw [if_pos hc3] at hp
        refine e_icmp_ge_f f274_14 hc3 ?_
        refine e_bipush (v := 12) f274_17 (by decide) ?_
        refine e_iload_n f274_19 rfl ?_
        refine e_imul f274_20 ?_
        refine e_iload_n f274_21 rfl ?_
        refine e_iadd f274_22 ?_
        refine e_istore (ls2 := [some (.ref (86)), some (.int (a0)), some (.int (a1)), some (.int (v3)), some (.int (((12) * (a0)) + (v3)))]) f274_23 (Nat.le_of_ble_eq_true rfl) rfl ?_
        refine e_aload_n f274_25 rfl ?_
        refine e_getR f274_26 (WF.t w 86 (by decide)) rfl (WF.r (q := 129) w 86 61 (by decide)) ?_
        refine e_iload f274_29 rfl ?_
        by_cases hg4 : (((12) * (a0)) + (v3)) < (0 : Int32) ∨ 240 ≤ (((12) * (a0)) + (v3)).toNatClampNeg
        · rw [if_pos hg4] at hp; cases hp
        rw [if_neg hg4] at hp
        refine e_iaload f274_31 (Or.inl (WF.t w 129 (by decide))) (WF.n w 129 (by decide)) hg4 ?_
        refine e_iload_n f274_32 rfl ?_
        by_cases hc5 : (hI (h) (129) (((12) * (a0)) + (v3)).toNatClampNeg) = ((a1) : Int32)
        · rw [if_pos hc5] at hp
          refine e_icmp_ne_f f274_33 hc5 ?_
          refine e_iload_n f274_36 rfl ?_
          refine e_iconst (v := 2) f274_37 (by decide) ?_
          by_cases hc6 : (a1) = ((2) : Int32)
          · rw [if_pos hc6] at hp
            refine e_icmp_eq_t f274_38 hc6 ?_
            refine e_iload f274_52 rfl ?_
            have hp := Option.some.inj hp
            subst hp
            exact e_ireturn f274_54 (Or.inl rfl)
          · rw [if_neg hc6] at hp
            refine e_icmp_eq_f f274_38 hc6 ?_
            refine e_aload_n f274_41 rfl ?_
            refine e_iload f274_42 rfl ?_
            obtain ⟨r7, hr8, hp⟩ := bind_some hp
            try dsimp only at hp
            refine e_callV (st := []) (o := 86) (as := [.int (((12) * (a0)) + (v3))]) f274_44 (by decide) rfl rfl (Nat.le_of_ble_eq_true rfl) (WF.t w 86 (by decide)) (Nat.le_of_ble_eq_true rfl) (p272_ok d F (h) w (((12) * (a0)) + (v3)) r7 hr8) ?_
            show ex _ 274 (47, [some (.ref (86)), some (.int (a0)), some (.int (a1)), some (.int (v3)), some (.int (((12) * (a0)) + (v3)))], [.long (r7.1)], r7.2) = _
            refine e_lconst (v := 1) f274_47 (by decide) ?_
            refine e_lcmp f274_48 ?_
            by_cases hc9 : (lg_cmp (r7.1) (1)) = (0 : Int32)
            · rw [if_pos hc9] at hp
              refine e_if_ne_f f274_49 hc9 ?_
              refine e_iload f274_52 rfl ?_
              have hp := Option.some.inj hp
              subst hp
              exact e_ireturn f274_54 (Or.inl rfl)
            · rw [if_neg hc9] at hp
              refine e_if_ne_t f274_49 hc9 ?_
              refine ex_weak (ls := [some (.ref (86)), some (.int (a0)), some (.int (a1)), some (.int (v3)), none]) (le2_ok ⟨Or.inr rfl, Or.inr rfl, Or.inr rfl, Or.inr rfl, Or.inl rfl, trivial⟩) ?_
              exact p274_j55_ok d F a0 a1 ((p274_L2 F a0 a1 n)) (ih) (r7.2) ((p272_w F (h) w (((12) * (a0)) + (v3))  r7 hr8)) (v3) _ hp
        · rw [if_neg hc5] at hp
          refine e_icmp_ne_t f274_33 hc5 ?_
          refine ex_weak (ls := [some (.ref (86)), some (.int (a0)), some (.int (a1)), some (.int (v3)), none]) (le2_ok ⟨Or.inr rfl, Or.inr rfl, Or.inr rfl, Or.inr rfl, Or.inl rfl, trivial⟩) ?_
          exact p274_j55_ok d F a0 a1 ((p274_L2 F a0 a1 n)) (ih) (h) (w) (v3) _ hp
      · rw [if_neg hc3] at hp
        refine e_icmp_ge_t f274_14 hc3 ?_
        refine e_iconst (v := -1) f274_61 (by decide) ?_
        have hp := Option.some.inj hp
        subst hp
        exact e_ireturn f274_62 (Or.inl rfl)
set_option maxRecDepth 100000 in
set_option maxHeartbeats 4000000 in
theorem p274_L2_w (F : Nat) (a0 : Int32) (a1 : Int32) : ∀ (n : Nat) (h : HS) (w : WF h) (v3 : Int32) (r : Int32 × HS), p274_L2 F a0 a1 n h v3 = some r → WF r.2 := by
  intro n
  induction n with
  | zero => intro h w v3 r hp; cases hp
  | succ n ih =>
    intro h w v3 r hp
    unfold p274_L2 at hp
    by_cases hc1 : (a0) = (((-1)) : Int32)
    · rw [if_pos hc1] at hp
      have hp := Option.some.inj hp
      subst hp
      exact (w)
    · rw [if_neg hc1] at hp
      by_cases hg2 : (a0) < (0 : Int32) ∨ 20 ≤ (a0).toNatClampNeg
      · rw [if_pos hg2] at hp; cases hp
      rw [if_neg hg2] at hp
      by_cases hc3 : (v3) < ((hI (h) (128) (a0).toNatClampNeg) : Int32)
      · rw [if_pos hc3] at hp
        by_cases hg4 : (((12) * (a0)) + (v3)) < (0 : Int32) ∨ 240 ≤ (((12) * (a0)) + (v3)).toNatClampNeg
        · rw [if_pos hg4] at hp; cases hp
        rw [if_neg hg4] at hp
        by_cases hc5 : (hI (h) (129) (((12) * (a0)) + (v3)).toNatClampNeg) = ((a1) : Int32)
        · rw [if_pos hc5] at hp
          by_cases hc6 : (a1) = ((2) : Int32)
          · rw [if_pos hc6] at hp
            have hp := Option.some.inj hp
            subst hp
            exact (w)
          · rw [if_neg hc6] at hp
            obtain ⟨r7, hr8, hp⟩ := bind_some hp
            try dsimp only at hp
            by_cases hc9 : (lg_cmp (r7.1) (1)) = (0 : Int32)
            · rw [if_pos hc9] at hp
              have hp := Option.some.inj hp
              subst hp
              exact ((p272_w F (h) w (((12) * (a0)) + (v3))  r7 hr8))
            · rw [if_neg hc9] at hp
              exact p274_j55_w F a0 a1 ((p274_L2 F a0 a1 n)) (ih) (r7.2) ((p272_w F (h) w (((12) * (a0)) + (v3))  r7 hr8)) (v3) _ hp
        · rw [if_neg hc5] at hp
          exact p274_j55_w F a0 a1 ((p274_L2 F a0 a1 n)) (ih) (h) (w) (v3) _ hp
      · rw [if_neg hc3] at hp
        have hp := Option.some.inj hp
        subst hp
        exact (w)
set_option maxRecDepth 100000 in
set_option maxHeartbeats 4000000 in
theorem p274_ok (d : Nat) (F : Nat) (h : HS) (w : WF h) (a0 : Int32) (a1 : Int32) (r : Int32 × HS) (hp : p274 F h a0 a1 = some r) : ex (d + 3) 274 (ent 274 [.ref (86), .int (a0), .int (a1)] h) = some (some (.int (r.1)), r.2) := by
  rw [show ent 274 [.ref (86), .int (a0), .int (a1)] h = (0, [some (.ref (86)), some (.int (a0)), some (.int (a1)), none, none], [], h) from by  rfl]
  refine ex_weak (ls := [some (.ref (86)), some (.int (a0)), some (.int (a1)), none, none]) (le2_ok ⟨Or.inr rfl, Or.inr rfl, Or.inr rfl, Or.inr rfl, Or.inr rfl, trivial⟩) ?_
  unfold p274 at hp
  refine e_iconst (v := 0) f274_0 (by decide) ?_
  refine e_istore_n (ls2 := [some (.ref (86)), some (.int (a0)), some (.int (a1)), some (.int (0)), none]) f274_1 (Nat.le_of_ble_eq_true rfl) rfl ?_
  refine ex_weak (ls := [some (.ref (86)), some (.int (a0)), some (.int (a1)), some (.int (0)), none]) (le2_ok ⟨Or.inr rfl, Or.inr rfl, Or.inr rfl, Or.inr rfl, Or.inl rfl, trivial⟩) ?_
  exact p274_L2_ok d F a0 a1 F (h) (w) (0) _ hp
set_option maxRecDepth 100000 in
set_option maxHeartbeats 4000000 in
theorem p274_w (F : Nat) (h : HS) (w : WF h) (a0 : Int32) (a1 : Int32) (r : Int32 × HS) (hp : p274 F h a0 a1 = some r) : WF r.2 := by
  unfold p274 at hp
  exact p274_L2_w F a0 a1 F (h) (w) (0) _ hp
theorem f275_0 : fetch 275 0 = some (.aload_n 0, 0, 0, 0) := rfl
theorem f275_1 : fetch 275 1 = some (.getfield 314, 12, 20, 0) := rfl
theorem f275_4 : fetch 275 4 = some (.bipush 64, 0, 0, 0) := rfl
theorem f275_6 : fetch 275 6 = some (.if_icmp .ge 18, 24, 0, 0) := rfl
theorem f275_9 : fetch 275 9 = some (.lload_n 2, 0, 0, 0) := rfl
theorem f275_10 : fetch 275 10 = some (.aload_n 0, 0, 0, 0) := rfl
theorem f275_11 : fetch 275 11 = some (.getfield 314, 12, 20, 0) := rfl
theorem f275_14 : fetch 275 14 = some (.lshr, 0, 0, 0) := rfl
theorem f275_15 : fetch 275 15 = some (.lconst 0, 0, 0, 0) := rfl
theorem f275_16 : fetch 275 16 = some (.lcmp, 0, 0, 0) := rfl
theorem f275_17 : fetch 275 17 = some (.ifCond .eq 7, 24, 0, 0) := rfl
theorem f275_20 : fetch 275 20 = some (.iconst 1, 0, 0, 0) := rfl
theorem f275_21 : fetch 275 21 = some (.goto 4, 25, 0, 0) := rfl
theorem f275_24 : fetch 275 24 = some (.iconst 0, 0, 0, 0) := rfl
theorem f275_25 : fetch 275 25 = some (.istore 6, 0, 0, 0) := rfl
theorem f275_27 : fetch 275 27 = some (.aload_n 0, 0, 0, 0) := rfl
theorem f275_28 : fetch 275 28 = some (.iload_n 1, 0, 0, 0) := rfl
theorem f275_29 : fetch 275 29 = some (.invokevirtual 301, 206, 1, 0) := rfl
theorem f275_32 : fetch 275 32 = some (.ifCond .eq 43, 75, 0, 0) := rfl
theorem f275_35 : fetch 275 35 = some (.aload_n 0, 0, 0, 0) := rfl
theorem f275_36 : fetch 275 36 = some (.getfield 46, 12, 19, 2) := rfl
theorem f275_39 : fetch 275 39 = some (.iload_n 1, 0, 0, 0) := rfl
theorem f275_40 : fetch 275 40 = some (.iaload, 0, 0, 0) := rfl
theorem f275_41 : fetch 275 41 = some (.bipush 20, 0, 0, 0) := rfl
theorem f275_43 : fetch 275 43 = some (.if_icmp .eq 32, 75, 0, 0) := rfl
theorem f275_46 : fetch 275 46 = some (.iload 6, 0, 0, 0) := rfl
theorem f275_48 : fetch 275 48 = some (.ifCond .ne 27, 75, 0, 0) := rfl
theorem f275_51 : fetch 275 51 = some (.iload 4, 0, 0, 0) := rfl
theorem f275_53 : fetch 275 53 = some (.iconst 1, 0, 0, 0) := rfl
theorem f275_54 : fetch 275 54 = some (.sipush 200, 0, 0, 0) := rfl
theorem f275_57 : fetch 275 57 = some (.invokestatic 240, 187, 3, 1) := rfl
theorem f275_60 : fetch 275 60 = some (.ifCond .eq 15, 75, 0, 0) := rfl
theorem f275_63 : fetch 275 63 = some (.iload 5, 0, 0, 0) := rfl
theorem f275_65 : fetch 275 65 = some (.iconst 0, 0, 0, 0) := rfl
theorem f275_66 : fetch 275 66 = some (.ldc_w 541, 0, 0, 999999) := rfl
theorem f275_69 : fetch 275 69 = some (.invokestatic 240, 187, 3, 1) := rfl
theorem f275_72 : fetch 275 72 = some (.ifCond .ne 5, 77, 0, 0) := rfl
theorem f275_75 : fetch 275 75 = some (.iconst (-1), 0, 0, 0) := rfl
theorem f275_76 : fetch 275 76 = some (.ireturn, 0, 0, 0) := rfl
theorem f275_77 : fetch 275 77 = some (.bipush 20, 0, 0, 0) := rfl
theorem f275_79 : fetch 275 79 = some (.iload_n 1, 0, 0, 0) := rfl
theorem f275_80 : fetch 275 80 = some (.imul, 0, 0, 0) := rfl
theorem f275_81 : fetch 275 81 = some (.aload_n 0, 0, 0, 0) := rfl
theorem f275_82 : fetch 275 82 = some (.getfield 46, 12, 19, 2) := rfl
theorem f275_85 : fetch 275 85 = some (.iload_n 1, 0, 0, 0) := rfl
theorem f275_86 : fetch 275 86 = some (.iaload, 0, 0, 0) := rfl
theorem f275_87 : fetch 275 87 = some (.iadd, 0, 0, 0) := rfl
theorem f275_88 : fetch 275 88 = some (.istore 7, 0, 0, 0) := rfl
theorem f275_90 : fetch 275 90 = some (.aload_n 0, 0, 0, 0) := rfl
theorem f275_91 : fetch 275 91 = some (.getfield 170, 12, 74, 2) := rfl
theorem f275_94 : fetch 275 94 = some (.iload 7, 0, 0, 0) := rfl
theorem f275_96 : fetch 275 96 = some (.lload_n 2, 0, 0, 0) := rfl
theorem f275_97 : fetch 275 97 = some (.lastore, 0, 0, 0) := rfl
theorem f275_98 : fetch 275 98 = some (.aload_n 0, 0, 0, 0) := rfl
theorem f275_99 : fetch 275 99 = some (.getfield 173, 12, 75, 2) := rfl
theorem f275_102 : fetch 275 102 = some (.iload 7, 0, 0, 0) := rfl
theorem f275_104 : fetch 275 104 = some (.iload 4, 0, 0, 0) := rfl
theorem f275_106 : fetch 275 106 = some (.iastore, 0, 0, 0) := rfl
theorem f275_107 : fetch 275 107 = some (.aload_n 0, 0, 0, 0) := rfl
theorem f275_108 : fetch 275 108 = some (.getfield 176, 12, 76, 2) := rfl
theorem f275_111 : fetch 275 111 = some (.iload 7, 0, 0, 0) := rfl
theorem f275_113 : fetch 275 113 = some (.iload 5, 0, 0, 0) := rfl
theorem f275_115 : fetch 275 115 = some (.iastore, 0, 0, 0) := rfl
theorem f275_116 : fetch 275 116 = some (.aload_n 0, 0, 0, 0) := rfl
theorem f275_117 : fetch 275 117 = some (.getfield 46, 12, 19, 2) := rfl
theorem f275_120 : fetch 275 120 = some (.iload_n 1, 0, 0, 0) := rfl
theorem f275_121 : fetch 275 121 = some (.dup2, 0, 0, 0) := rfl
theorem f275_122 : fetch 275 122 = some (.iaload, 0, 0, 0) := rfl
theorem f275_123 : fetch 275 123 = some (.iconst 1, 0, 0, 0) := rfl
theorem f275_124 : fetch 275 124 = some (.iadd, 0, 0, 0) := rfl
theorem f275_125 : fetch 275 125 = some (.iastore, 0, 0, 0) := rfl
theorem f275_126 : fetch 275 126 = some (.aload_n 0, 0, 0, 0) := rfl
theorem f275_127 : fetch 275 127 = some (.getfield 46, 12, 19, 2) := rfl
theorem f275_130 : fetch 275 130 = some (.iload_n 1, 0, 0, 0) := rfl
theorem f275_131 : fetch 275 131 = some (.iaload, 0, 0, 0) := rfl
theorem f275_132 : fetch 275 132 = some (.iconst 1, 0, 0, 0) := rfl
theorem f275_133 : fetch 275 133 = some (.isub, 0, 0, 0) := rfl
theorem f275_134 : fetch 275 134 = some (.ireturn, 0, 0, 0) := rfl
set_option maxRecDepth 100000 in
set_option maxHeartbeats 4000000 in
theorem p275_j25_ok (d : Nat) (a0 : Int32) (a1 : Int64) (a2 : Int32) (a3 : Int32) (h : HS) (w : WF h) (s0 : Int32) (r : Int32 × HS) (hp : p275_j25 a0 a1 a2 a3 h s0 = some r) : ex (d + 3) 275 (25, [some (.ref (86)), some (.int (a0)), some (.long (a1)), none, some (.int (a2)), some (.int (a3)), none, none], [.int (s0)], h) = some (some (.int (r.1)), r.2) := by
  unfold p275_j25 at hp
  refine e_istore (ls2 := [some (.ref (86)), some (.int (a0)), some (.long (a1)), none, some (.int (a2)), some (.int (a3)), some (.int (s0)), none]) f275_25 (Nat.le_of_ble_eq_true rfl) rfl ?_
  refine e_aload_n f275_27 rfl ?_
  refine e_iload_n f275_28 rfl ?_
  obtain ⟨r3, hr4, hp⟩ := bind_some hp
  try dsimp only at hp
  refine e_callV (st := []) (o := 86) (as := [.int (a0)]) f275_29 (by decide) rfl rfl (Nat.le_of_ble_eq_true rfl) (WF.t w 86 (by decide)) (Nat.le_of_ble_eq_true rfl) (p206_ok d (h) w (a0) r3 hr4) ?_
  show ex _ 275 (32, [some (.ref (86)), some (.int (a0)), some (.long (a1)), none, some (.int (a2)), some (.int (a3)), some (.int (s0)), none], [.int (r3)], h) = _
  by_cases hc5 : (r3) = (0 : Int32)
  · rw [if_pos hc5] at hp
    refine e_if_eq_t f275_32 hc5 ?_
    refine e_iconst (v := -1) f275_75 (by decide) ?_
    have hp := Option.some.inj hp
    subst hp
    exact e_ireturn f275_76 (Or.inl rfl)
  · rw [if_neg hc5] at hp
    refine e_if_eq_f f275_32 hc5 ?_
    refine e_aload_n f275_35 rfl ?_
    refine e_getR f275_36 (WF.t w 86 (by decide)) rfl (WF.r (q := 99) w 86 19 (by decide)) ?_
    refine e_iload_n f275_39 rfl ?_
    by_cases hg6 : (a0) < (0 : Int32) ∨ 200 ≤ (a0).toNatClampNeg
    · rw [if_pos hg6] at hp; cases hp
    rw [if_neg hg6] at hp
    refine e_iaload f275_40 (Or.inl (WF.t w 99 (by decide))) (WF.n w 99 (by decide)) hg6 ?_
    refine e_bipush (v := 20) f275_41 (by decide) ?_
    by_cases hc7 : (hI (h) (99) (a0).toNatClampNeg) = ((20) : Int32)
    · rw [if_pos hc7] at hp
      refine e_icmp_eq_t f275_43 hc7 ?_
      refine e_iconst (v := -1) f275_75 (by decide) ?_
      have hp := Option.some.inj hp
      subst hp
      exact e_ireturn f275_76 (Or.inl rfl)
    · rw [if_neg hc7] at hp
      refine e_icmp_eq_f f275_43 hc7 ?_
      refine e_iload f275_46 rfl ?_
      by_cases hc8 : (s0) = (0 : Int32)
      · rw [if_pos hc8] at hp
        refine e_if_ne_f f275_48 hc8 ?_
        refine e_iload f275_51 rfl ?_
        refine e_iconst (v := 1) f275_53 (by decide) ?_
        refine e_sipush (v := 200) f275_54 (by decide) ?_
        obtain ⟨r9, hr10, hp⟩ := bind_some hp
        try dsimp only at hp
        refine e_callS (st := []) (as := [.int (a2), .int (1), .int (200)]) f275_57 (by decide) rfl rfl (Nat.le_of_ble_eq_true rfl) (Nat.le_of_ble_eq_true rfl) (p187_ok (d + 2) (h) w (a2) (1) (200) r9 hr10) ?_
        show ex _ 275 (60, [some (.ref (86)), some (.int (a0)), some (.long (a1)), none, some (.int (a2)), some (.int (a3)), some (.int (s0)), none], [.int (r9)], h) = _
        by_cases hc11 : (r9) = (0 : Int32)
        · rw [if_pos hc11] at hp
          refine e_if_eq_t f275_60 hc11 ?_
          refine e_iconst (v := -1) f275_75 (by decide) ?_
          have hp := Option.some.inj hp
          subst hp
          exact e_ireturn f275_76 (Or.inl rfl)
        · rw [if_neg hc11] at hp
          refine e_if_eq_f f275_60 hc11 ?_
          refine e_iload f275_63 rfl ?_
          refine e_iconst (v := 0) f275_65 (by decide) ?_
          refine e_ldcw (v := 999999) f275_66 (by decide) (by decide) ?_
          obtain ⟨r12, hr13, hp⟩ := bind_some hp
          try dsimp only at hp
          refine e_callS (st := []) (as := [.int (a3), .int (0), .int (999999)]) f275_69 (by decide) rfl rfl (Nat.le_of_ble_eq_true rfl) (Nat.le_of_ble_eq_true rfl) (p187_ok (d + 2) (h) w (a3) (0) (999999) r12 hr13) ?_
          show ex _ 275 (72, [some (.ref (86)), some (.int (a0)), some (.long (a1)), none, some (.int (a2)), some (.int (a3)), some (.int (s0)), none], [.int (r12)], h) = _
          by_cases hc14 : (r12) = (0 : Int32)
          · rw [if_pos hc14] at hp
            refine e_if_ne_f f275_72 hc14 ?_
            refine e_iconst (v := -1) f275_75 (by decide) ?_
            have hp := Option.some.inj hp
            subst hp
            exact e_ireturn f275_76 (Or.inl rfl)
          · rw [if_neg hc14] at hp
            refine e_if_ne_t f275_72 hc14 ?_
            refine e_bipush (v := 20) f275_77 (by decide) ?_
            refine e_iload_n f275_79 rfl ?_
            refine e_imul f275_80 ?_
            refine e_aload_n f275_81 rfl ?_
            refine e_getR f275_82 (WF.t w 86 (by decide)) rfl (WF.r (q := 99) w 86 19 (by decide)) ?_
            refine e_iload_n f275_85 rfl ?_
            by_cases hg15 : (a0) < (0 : Int32) ∨ 200 ≤ (a0).toNatClampNeg
            · rw [if_pos hg15] at hp; cases hp
            rw [if_neg hg15] at hp
            refine e_iaload f275_86 (Or.inl (WF.t w 99 (by decide))) (WF.n w 99 (by decide)) hg15 ?_
            refine e_iadd f275_87 ?_
            refine e_istore (ls2 := [some (.ref (86)), some (.int (a0)), some (.long (a1)), none, some (.int (a2)), some (.int (a3)), some (.int (s0)), some (.int (((20) * (a0)) + (hI (h) (99) (a0).toNatClampNeg)))]) f275_88 (Nat.le_of_ble_eq_true rfl) rfl ?_
            refine e_aload_n f275_90 rfl ?_
            refine e_getR f275_91 (WF.t w 86 (by decide)) rfl (WF.r (q := 138) w 86 74 (by decide)) ?_
            refine e_iload f275_94 rfl ?_
            refine e_lload_n f275_96 rfl ?_
            by_cases hg16 : (((20) * (a0)) + (hI (h) (99) (a0).toNatClampNeg)) < (0 : Int32) ∨ 4000 ≤ (((20) * (a0)) + (hI (h) (99) (a0).toNatClampNeg)).toNatClampNeg
            · rw [if_pos hg16] at hp; cases hp
            rw [if_neg hg16] at hp
            refine e_lastore f275_97 (WF.t w 138 (by decide)) (WF.n w 138 (by decide)) hg16 ?_
            refine e_aload_n f275_98 rfl ?_
            refine e_getR f275_99 (WF.t w 86 (by decide)) rfl (WF.r (q := 139) w 86 75 (by decide)) ?_
            refine e_iload f275_102 rfl ?_
            refine e_iload f275_104 rfl ?_
            by_cases hg17 : (((20) * (a0)) + (hI (h) (99) (a0).toNatClampNeg)) < (0 : Int32) ∨ 4000 ≤ (((20) * (a0)) + (hI (h) (99) (a0).toNatClampNeg)).toNatClampNeg
            · rw [if_pos hg17] at hp; cases hp
            rw [if_neg hg17] at hp
            refine e_iastore f275_106 (WF.t w 139 (by decide)) (WF.n w 139 (by decide)) hg17 ?_
            obtain ⟨h18, e19, hp⟩ := bind_some hp
            try dsimp only at hp
            have e19 := Option.some.inj e19
            have w20 : WF h18 := e19 ▸ w
            rw [e19]
            refine e_aload_n f275_107 rfl ?_
            refine e_getR f275_108 (WF.t w20 86 (by decide)) rfl (WF.r (q := 140) w20 86 76 (by decide)) ?_
            refine e_iload f275_111 rfl ?_
            refine e_iload f275_113 rfl ?_
            by_cases hg21 : (((20) * (a0)) + (hI (h) (99) (a0).toNatClampNeg)) < (0 : Int32) ∨ 4000 ≤ (((20) * (a0)) + (hI (h) (99) (a0).toNatClampNeg)).toNatClampNeg
            · rw [if_pos hg21] at hp; cases hp
            rw [if_neg hg21] at hp
            refine e_iastore f275_115 (WF.t w20 140 (by decide)) (WF.n w20 140 (by decide)) hg21 ?_
            refine e_aload_n f275_116 rfl ?_
            refine e_getR f275_117 (WF.t w20 86 (by decide)) rfl (WF.r (q := 99) w20 86 19 (by decide)) ?_
            refine e_iload_n f275_120 rfl ?_
            refine e_dup2 f275_121 rfl rfl ?_
            by_cases hg22 : (a0) < (0 : Int32) ∨ 200 ≤ (a0).toNatClampNeg
            · rw [if_pos hg22] at hp; cases hp
            rw [if_neg hg22] at hp
            refine e_iaload f275_122 (Or.inl (WF.t w20 99 (by decide))) (WF.n w20 99 (by decide)) hg22 ?_
            refine e_iconst (v := 1) f275_123 (by decide) ?_
            refine e_iadd f275_124 ?_
            by_cases hg23 : (a0) < (0 : Int32) ∨ 200 ≤ (a0).toNatClampNeg
            · rw [if_pos hg23] at hp; cases hp
            rw [if_neg hg23] at hp
            refine e_iastore f275_125 (WF.t w20 99 (by decide)) (WF.n w20 99 (by decide)) hg23 ?_
            obtain ⟨h24, e25, hp⟩ := bind_some hp
            try dsimp only at hp
            have e25 := Option.some.inj e25
            have w26 : WF h24 := e25 ▸ w20
            rw [e25]
            refine e_aload_n f275_126 rfl ?_
            refine e_getR f275_127 (WF.t w26 86 (by decide)) rfl (WF.r (q := 99) w26 86 19 (by decide)) ?_
            refine e_iload_n f275_130 rfl ?_
            by_cases hg27 : (a0) < (0 : Int32) ∨ 200 ≤ (a0).toNatClampNeg
            · rw [if_pos hg27] at hp; cases hp
            rw [if_neg hg27] at hp
            refine e_iaload f275_131 (Or.inl (WF.t w26 99 (by decide))) (WF.n w26 99 (by decide)) hg27 ?_
            refine e_iconst (v := 1) f275_132 (by decide) ?_
            refine e_isub f275_133 ?_
            have hp := Option.some.inj hp
            subst hp
            exact e_ireturn f275_134 (Or.inl rfl)
      · rw [if_neg hc8] at hp
        refine e_if_ne_t f275_48 hc8 ?_
        refine e_iconst (v := -1) f275_75 (by decide) ?_
        have hp := Option.some.inj hp
        subst hp
        exact e_ireturn f275_76 (Or.inl rfl)
set_option maxRecDepth 100000 in
set_option maxHeartbeats 4000000 in
theorem p275_j25_w (a0 : Int32) (a1 : Int64) (a2 : Int32) (a3 : Int32) (h : HS) (w : WF h) (s0 : Int32) (r : Int32 × HS) (hp : p275_j25 a0 a1 a2 a3 h s0 = some r) : WF r.2 := by
  unfold p275_j25 at hp
  obtain ⟨r3, hr4, hp⟩ := bind_some hp
  try dsimp only at hp
  by_cases hc5 : (r3) = (0 : Int32)
  · rw [if_pos hc5] at hp
    have hp := Option.some.inj hp
    subst hp
    exact (w)
  · rw [if_neg hc5] at hp
    by_cases hg6 : (a0) < (0 : Int32) ∨ 200 ≤ (a0).toNatClampNeg
    · rw [if_pos hg6] at hp; cases hp
    rw [if_neg hg6] at hp
    by_cases hc7 : (hI (h) (99) (a0).toNatClampNeg) = ((20) : Int32)
    · rw [if_pos hc7] at hp
      have hp := Option.some.inj hp
      subst hp
      exact (w)
    · rw [if_neg hc7] at hp
      by_cases hc8 : (s0) = (0 : Int32)
      · rw [if_pos hc8] at hp
        obtain ⟨r9, hr10, hp⟩ := bind_some hp
        try dsimp only at hp
        by_cases hc11 : (r9) = (0 : Int32)
        · rw [if_pos hc11] at hp
          have hp := Option.some.inj hp
          subst hp
          exact (w)
        · rw [if_neg hc11] at hp
          obtain ⟨r12, hr13, hp⟩ := bind_some hp
          try dsimp only at hp
          by_cases hc14 : (r12) = (0 : Int32)
          · rw [if_pos hc14] at hp
            have hp := Option.some.inj hp
            subst hp
            exact (w)
          · rw [if_neg hc14] at hp
            by_cases hg15 : (a0) < (0 : Int32) ∨ 200 ≤ (a0).toNatClampNeg
            · rw [if_pos hg15] at hp; cases hp
            rw [if_neg hg15] at hp
            by_cases hg16 : (((20) * (a0)) + (hI (h) (99) (a0).toNatClampNeg)) < (0 : Int32) ∨ 4000 ≤ (((20) * (a0)) + (hI (h) (99) (a0).toNatClampNeg)).toNatClampNeg
            · rw [if_pos hg16] at hp; cases hp
            rw [if_neg hg16] at hp
            by_cases hg17 : (((20) * (a0)) + (hI (h) (99) (a0).toNatClampNeg)) < (0 : Int32) ∨ 4000 ≤ (((20) * (a0)) + (hI (h) (99) (a0).toNatClampNeg)).toNatClampNeg
            · rw [if_pos hg17] at hp; cases hp
            rw [if_neg hg17] at hp
            obtain ⟨h18, e19, hp⟩ := bind_some hp
            try dsimp only at hp
            have e19 := Option.some.inj e19
            have w20 : WF h18 := e19 ▸ w
            by_cases hg21 : (((20) * (a0)) + (hI (h) (99) (a0).toNatClampNeg)) < (0 : Int32) ∨ 4000 ≤ (((20) * (a0)) + (hI (h) (99) (a0).toNatClampNeg)).toNatClampNeg
            · rw [if_pos hg21] at hp; cases hp
            rw [if_neg hg21] at hp
            by_cases hg22 : (a0) < (0 : Int32) ∨ 200 ≤ (a0).toNatClampNeg
            · rw [if_pos hg22] at hp; cases hp
            rw [if_neg hg22] at hp
            by_cases hg23 : (a0) < (0 : Int32) ∨ 200 ≤ (a0).toNatClampNeg
            · rw [if_pos hg23] at hp; cases hp
            rw [if_neg hg23] at hp
            obtain ⟨h24, e25, hp⟩ := bind_some hp
            try dsimp only at hp
            have e25 := Option.some.inj e25
            have w26 : WF h24 := e25 ▸ w20
            by_cases hg27 : (a0) < (0 : Int32) ∨ 200 ≤ (a0).toNatClampNeg
            · rw [if_pos hg27] at hp; cases hp
            rw [if_neg hg27] at hp
            have hp := Option.some.inj hp
            subst hp
            exact (w26)
      · rw [if_neg hc8] at hp
        have hp := Option.some.inj hp
        subst hp
        exact (w)
set_option maxRecDepth 100000 in
set_option maxHeartbeats 4000000 in
theorem p275_j24_ok (d : Nat) (a0 : Int32) (a1 : Int64) (a2 : Int32) (a3 : Int32) (h : HS) (w : WF h) (r : Int32 × HS) (hp : p275_j24 a0 a1 a2 a3 h = some r) : ex (d + 3) 275 (24, [some (.ref (86)), some (.int (a0)), some (.long (a1)), none, some (.int (a2)), some (.int (a3)), none, none], [], h) = some (some (.int (r.1)), r.2) := by
  unfold p275_j24 at hp
  refine e_iconst (v := 0) f275_24 (by decide) ?_
  refine ex_weak (ls := [some (.ref (86)), some (.int (a0)), some (.long (a1)), none, some (.int (a2)), some (.int (a3)), none, none]) (le2_ok ⟨Or.inr rfl, Or.inr rfl, Or.inr rfl, Or.inl rfl, Or.inr rfl, Or.inr rfl, Or.inl rfl, Or.inl rfl, trivial⟩) ?_
  exact p275_j25_ok d a0 a1 a2 a3 (h) (w) (0) _ hp
set_option maxRecDepth 100000 in
set_option maxHeartbeats 4000000 in
theorem p275_j24_w (a0 : Int32) (a1 : Int64) (a2 : Int32) (a3 : Int32) (h : HS) (w : WF h) (r : Int32 × HS) (hp : p275_j24 a0 a1 a2 a3 h = some r) : WF r.2 := by
  unfold p275_j24 at hp
  exact p275_j25_w a0 a1 a2 a3 (h) (w) (0) _ hp
set_option maxRecDepth 100000 in
set_option maxHeartbeats 4000000 in
theorem p275_ok (d : Nat) (h : HS) (w : WF h) (a0 : Int32) (a1 : Int64) (a2 : Int32) (a3 : Int32) (r : Int32 × HS) (hp : p275 h a0 a1 a2 a3 = some r) : ex (d + 3) 275 (ent 275 [.ref (86), .int (a0), .long (a1), .int (a2), .int (a3)] h) = some (some (.int (r.1)), r.2) := by
  rw [show ent 275 [.ref (86), .int (a0), .long (a1), .int (a2), .int (a3)] h = (0, [some (.ref (86)), some (.int (a0)), some (.long (a1)), none, some (.int (a2)), some (.int (a3)), none, none], [], h) from by  rfl]
  refine ex_weak (ls := [some (.ref (86)), some (.int (a0)), some (.long (a1)), none, some (.int (a2)), some (.int (a3)), none, none]) (le2_ok ⟨Or.inr rfl, Or.inr rfl, Or.inr rfl, Or.inr rfl, Or.inr rfl, Or.inr rfl, Or.inr rfl, Or.inr rfl, trivial⟩) ?_
  unfold p275 at hp
  refine e_aload_n f275_0 rfl ?_
  refine e_getI f275_1 (WF.t w 86 (by decide)) (by decide) ?_
  refine e_bipush (v := 64) f275_4 (by decide) ?_
  by_cases hc1 : (hI (h) (86) 20) < ((64) : Int32)
  · rw [if_pos hc1] at hp
    refine e_icmp_ge_f f275_6 hc1 ?_
    refine e_lload_n f275_9 rfl ?_
    refine e_aload_n f275_10 rfl ?_
    refine e_getI f275_11 (WF.t w 86 (by decide)) (by decide) ?_
    refine e_lshr f275_14 ?_
    refine e_lconst (v := 0) f275_15 (by decide) ?_
    refine e_lcmp f275_16 ?_
    by_cases hc2 : (lg_cmp ((a1) >>> ((hI (h) (86) 20).toInt64 &&& 63)) (0)) = (0 : Int32)
    · rw [if_pos hc2] at hp
      refine e_if_eq_t f275_17 hc2 ?_
      refine ex_weak (ls := [some (.ref (86)), some (.int (a0)), some (.long (a1)), none, some (.int (a2)), some (.int (a3)), none, none]) (le2_ok ⟨Or.inr rfl, Or.inr rfl, Or.inr rfl, Or.inl rfl, Or.inr rfl, Or.inr rfl, Or.inl rfl, Or.inl rfl, trivial⟩) ?_
      exact p275_j24_ok d a0 a1 a2 a3 (h) (w)  _ hp
    · rw [if_neg hc2] at hp
      refine e_if_eq_f f275_17 hc2 ?_
      refine e_iconst (v := 1) f275_20 (by decide) ?_
      refine e_goto f275_21 ?_
      refine ex_weak (ls := [some (.ref (86)), some (.int (a0)), some (.long (a1)), none, some (.int (a2)), some (.int (a3)), none, none]) (le2_ok ⟨Or.inr rfl, Or.inr rfl, Or.inr rfl, Or.inl rfl, Or.inr rfl, Or.inr rfl, Or.inl rfl, Or.inl rfl, trivial⟩) ?_
      exact p275_j25_ok d a0 a1 a2 a3 (h) (w) (1) _ hp
  · rw [if_neg hc1] at hp
    refine e_icmp_ge_t f275_6 hc1 ?_
    refine ex_weak (ls := [some (.ref (86)), some (.int (a0)), some (.long (a1)), none, some (.int (a2)), some (.int (a3)), none, none]) (le2_ok ⟨Or.inr rfl, Or.inr rfl, Or.inr rfl, Or.inl rfl, Or.inr rfl, Or.inr rfl, Or.inl rfl, Or.inl rfl, trivial⟩) ?_
    exact p275_j24_ok d a0 a1 a2 a3 (h) (w)  _ hp
set_option maxRecDepth 100000 in
set_option maxHeartbeats 4000000 in
theorem p275_w (h : HS) (w : WF h) (a0 : Int32) (a1 : Int64) (a2 : Int32) (a3 : Int32) (r : Int32 × HS) (hp : p275 h a0 a1 a2 a3 = some r) : WF r.2 := by
  unfold p275 at hp
  by_cases hc1 : (hI (h) (86) 20) < ((64) : Int32)
  · rw [if_pos hc1] at hp
    by_cases hc2 : (lg_cmp ((a1) >>> ((hI (h) (86) 20).toInt64 &&& 63)) (0)) = (0 : Int32)
    · rw [if_pos hc2] at hp
      exact p275_j24_w a0 a1 a2 a3 (h) (w)  _ hp
    · rw [if_neg hc2] at hp
      exact p275_j25_w a0 a1 a2 a3 (h) (w) (1) _ hp
  · rw [if_neg hc1] at hp
    exact p275_j24_w a0 a1 a2 a3 (h) (w)  _ hp
theorem f276_0 : fetch 276 0 = some (.aload_n 0, 0, 0, 0) := rfl
theorem f276_1 : fetch 276 1 = some (.getfield 542, 12, 72, 0) := rfl
theorem f276_4 : fetch 276 4 = some (.bipush 30, 0, 0, 0) := rfl
theorem f276_6 : fetch 276 6 = some (.if_icmp .eq 17, 23, 0, 0) := rfl
theorem f276_9 : fetch 276 9 = some (.iload_n 1, 0, 0, 0) := rfl
theorem f276_10 : fetch 276 10 = some (.iconst (-1), 0, 0, 0) := rfl
theorem f276_11 : fetch 276 11 = some (.aload_n 0, 0, 0, 0) := rfl
theorem f276_12 : fetch 276 12 = some (.getfield 314, 12, 20, 0) := rfl
theorem f276_15 : fetch 276 15 = some (.iconst 1, 0, 0, 0) := rfl
theorem f276_16 : fetch 276 16 = some (.isub, 0, 0, 0) := rfl
theorem f276_17 : fetch 276 17 = some (.invokestatic 240, 187, 3, 1) := rfl
theorem f276_20 : fetch 276 20 = some (.ifCond .ne 5, 25, 0, 0) := rfl
theorem f276_23 : fetch 276 23 = some (.iconst (-1), 0, 0, 0) := rfl
theorem f276_24 : fetch 276 24 = some (.ireturn, 0, 0, 0) := rfl
theorem f276_25 : fetch 276 25 = some (.aload_n 0, 0, 0, 0) := rfl
theorem f276_26 : fetch 276 26 = some (.getfield 179, 12, 77, 2) := rfl
theorem f276_29 : fetch 276 29 = some (.aload_n 0, 0, 0, 0) := rfl
theorem f276_30 : fetch 276 30 = some (.getfield 542, 12, 72, 0) := rfl
theorem f276_33 : fetch 276 33 = some (.iload_n 1, 0, 0, 0) := rfl
theorem f276_34 : fetch 276 34 = some (.iastore, 0, 0, 0) := rfl
theorem f276_35 : fetch 276 35 = some (.aload_n 0, 0, 0, 0) := rfl
theorem f276_36 : fetch 276 36 = some (.getfield 191, 12, 81, 2) := rfl
theorem f276_39 : fetch 276 39 = some (.aload_n 0, 0, 0, 0) := rfl
theorem f276_40 : fetch 276 40 = some (.getfield 542, 12, 72, 0) := rfl
theorem f276_43 : fetch 276 43 = some (.iload_n 2, 0, 0, 0) := rfl
theorem f276_44 : fetch 276 44 = some (.bastore, 0, 0, 0) := rfl
theorem f276_45 : fetch 276 45 = some (.aload_n 0, 0, 0, 0) := rfl
theorem f276_46 : fetch 276 46 = some (.getfield 182, 12, 78, 2) := rfl
theorem f276_49 : fetch 276 49 = some (.aload_n 0, 0, 0, 0) := rfl
theorem f276_50 : fetch 276 50 = some (.getfield 542, 12, 72, 0) := rfl
theorem f276_53 : fetch 276 53 = some (.iconst (-1), 0, 0, 0) := rfl
theorem f276_54 : fetch 276 54 = some (.iastore, 0, 0, 0) := rfl
theorem f276_55 : fetch 276 55 = some (.aload_n 0, 0, 0, 0) := rfl
theorem f276_56 : fetch 276 56 = some (.dup, 0, 0, 0) := rfl
theorem f276_57 : fetch 276 57 = some (.getfield 542, 12, 72, 0) := rfl
theorem f276_60 : fetch 276 60 = some (.iconst 1, 0, 0, 0) := rfl
theorem f276_61 : fetch 276 61 = some (.iadd, 0, 0, 0) := rfl
theorem f276_62 : fetch 276 62 = some (.putfield 542, 12, 72, 0) := rfl
theorem f276_65 : fetch 276 65 = some (.aload_n 0, 0, 0, 0) := rfl
theorem f276_66 : fetch 276 66 = some (.getfield 542, 12, 72, 0) := rfl
theorem f276_69 : fetch 276 69 = some (.iconst 1, 0, 0, 0) := rfl
theorem f276_70 : fetch 276 70 = some (.isub, 0, 0, 0) := rfl
theorem f276_71 : fetch 276 71 = some (.ireturn, 0, 0, 0) := rfl
set_option maxRecDepth 100000 in
set_option maxHeartbeats 4000000 in
theorem p276_ok (d : Nat) (h : HS) (w : WF h) (a0 : Int32) (a1 : Int32) (r : Int32 × HS) (hp : p276 h a0 a1 = some r) : ex (d + 1) 276 (ent 276 [.ref (86), .int (a0), .int (a1)] h) = some (some (.int (r.1)), r.2) := by
  rw [show ent 276 [.ref (86), .int (a0), .int (a1)] h = (0, [some (.ref (86)), some (.int (a0)), some (.int (a1))], [], h) from by  rfl]
  refine ex_weak (ls := [some (.ref (86)), some (.int (a0)), some (.int (a1))]) (le2_ok ⟨Or.inr rfl, Or.inr rfl, Or.inr rfl, trivial⟩) ?_
  unfold p276 at hp
  refine e_aload_n f276_0 rfl ?_
  refine e_getI f276_1 (WF.t w 86 (by decide)) (by decide) ?_
  refine e_bipush (v := 30) f276_4 (by decide) ?_
  by_cases hc1 : (hI (h) (86) 72) = ((30) : Int32)
  · rw [if_pos hc1] at hp
    refine e_icmp_eq_t f276_6 hc1 ?_
    refine e_iconst (v := -1) f276_23 (by decide) ?_
    have hp := Option.some.inj hp
    subst hp
    exact e_ireturn f276_24 (Or.inl rfl)
  · rw [if_neg hc1] at hp
    refine e_icmp_eq_f f276_6 hc1 ?_
    refine e_iload_n f276_9 rfl ?_
    refine e_iconst (v := -1) f276_10 (by decide) ?_
    refine e_aload_n f276_11 rfl ?_
    refine e_getI f276_12 (WF.t w 86 (by decide)) (by decide) ?_
    refine e_iconst (v := 1) f276_15 (by decide) ?_
    refine e_isub f276_16 ?_
    obtain ⟨r2, hr3, hp⟩ := bind_some hp
    try dsimp only at hp
    refine e_callS (st := []) (as := [.int (a0), .int ((-1)), .int ((hI (h) (86) 20) - (1))]) f276_17 (by decide) rfl rfl (Nat.le_of_ble_eq_true rfl) (Nat.le_of_ble_eq_true rfl) (p187_ok d (h) w (a0) ((-1)) ((hI (h) (86) 20) - (1)) r2 hr3) ?_
    show ex _ 276 (20, [some (.ref (86)), some (.int (a0)), some (.int (a1))], [.int (r2)], h) = _
    by_cases hc4 : (r2) = (0 : Int32)
    · rw [if_pos hc4] at hp
      refine e_if_ne_f f276_20 hc4 ?_
      refine e_iconst (v := -1) f276_23 (by decide) ?_
      have hp := Option.some.inj hp
      subst hp
      exact e_ireturn f276_24 (Or.inl rfl)
    · rw [if_neg hc4] at hp
      refine e_if_ne_t f276_20 hc4 ?_
      refine e_aload_n f276_25 rfl ?_
      refine e_getR f276_26 (WF.t w 86 (by decide)) rfl (WF.r (q := 141) w 86 77 (by decide)) ?_
      refine e_aload_n f276_29 rfl ?_
      refine e_getI f276_30 (WF.t w 86 (by decide)) (by decide) ?_
      refine e_iload_n f276_33 rfl ?_
      by_cases hg5 : (hI (h) (86) 72) < (0 : Int32) ∨ 30 ≤ (hI (h) (86) 72).toNatClampNeg
      · rw [if_pos hg5] at hp; cases hp
      rw [if_neg hg5] at hp
      refine e_iastore f276_34 (WF.t w 141 (by decide)) (WF.n w 141 (by decide)) hg5 ?_
      refine e_aload_n f276_35 rfl ?_
      refine e_getR f276_36 (WF.t w 86 (by decide)) rfl (WF.r (q := 145) w 86 81 (by decide)) ?_
      refine e_aload_n f276_39 rfl ?_
      refine e_getI f276_40 (WF.t w 86 (by decide)) (by decide) ?_
      refine e_iload_n f276_43 rfl ?_
      by_cases hg6 : (hI (hsI (h) (141) (hI (h) (86) 72).toNatClampNeg (a0)) (86) 72) < (0 : Int32) ∨ 30 ≤ (hI (hsI (h) (141) (hI (h) (86) 72).toNatClampNeg (a0)) (86) 72).toNatClampNeg
      · rw [if_pos hg6] at hp; cases hp
      rw [if_neg hg6] at hp
      refine e_zastore f276_44 (WF.t w 145 (by decide)) (WF.n w 145 (by decide)) hg6 ?_
      obtain ⟨h7, e8, hp⟩ := bind_some hp
      try dsimp only at hp
      have e8 := Option.some.inj e8
      have w9 : WF h7 := e8 ▸ w
      rw [e8]
      refine e_aload_n f276_45 rfl ?_
      refine e_getR f276_46 (WF.t w9 86 (by decide)) rfl (WF.r (q := 142) w9 86 78 (by decide)) ?_
      refine e_aload_n f276_49 rfl ?_
      refine e_getI f276_50 (WF.t w9 86 (by decide)) (by decide) ?_
      refine e_iconst (v := -1) f276_53 (by decide) ?_
      by_cases hg10 : (hI (h7) (86) 72) < (0 : Int32) ∨ 30 ≤ (hI (h7) (86) 72).toNatClampNeg
      · rw [if_pos hg10] at hp; cases hp
      rw [if_neg hg10] at hp
      refine e_iastore f276_54 (WF.t w9 142 (by decide)) (WF.n w9 142 (by decide)) hg10 ?_
      refine e_aload_n f276_55 rfl ?_
      refine e_dup f276_56 rfl ?_
      refine e_getI f276_57 (WF.t w9 86 (by decide)) (by decide) ?_
      refine e_iconst (v := 1) f276_60 (by decide) ?_
      refine e_iadd f276_61 ?_
      refine e_putI f276_62 (WF.t w9 86 (by decide)) rfl ?_
      obtain ⟨h11, e12, hp⟩ := bind_some hp
      try dsimp only at hp
      have e12 := Option.some.inj e12
      have w13 : WF h11 := e12 ▸ w9
      rw [e12]
      refine e_aload_n f276_65 rfl ?_
      refine e_getI f276_66 (WF.t w13 86 (by decide)) (by decide) ?_
      refine e_iconst (v := 1) f276_69 (by decide) ?_
      refine e_isub f276_70 ?_
      have hp := Option.some.inj hp
      subst hp
      exact e_ireturn f276_71 (Or.inl rfl)
set_option maxRecDepth 100000 in
set_option maxHeartbeats 4000000 in
theorem p276_w (h : HS) (w : WF h) (a0 : Int32) (a1 : Int32) (r : Int32 × HS) (hp : p276 h a0 a1 = some r) : WF r.2 := by
  unfold p276 at hp
  by_cases hc1 : (hI (h) (86) 72) = ((30) : Int32)
  · rw [if_pos hc1] at hp
    have hp := Option.some.inj hp
    subst hp
    exact (w)
  · rw [if_neg hc1] at hp
    obtain ⟨r2, hr3, hp⟩ := bind_some hp
    try dsimp only at hp
    by_cases hc4 : (r2) = (0 : Int32)
    · rw [if_pos hc4] at hp
      have hp := Option.some.inj hp
      subst hp
      exact (w)
    · rw [if_neg hc4] at hp
      by_cases hg5 : (hI (h) (86) 72) < (0 : Int32) ∨ 30 ≤ (hI (h) (86) 72).toNatClampNeg
      · rw [if_pos hg5] at hp; cases hp
      rw [if_neg hg5] at hp
      by_cases hg6 : (hI (hsI (h) (141) (hI (h) (86) 72).toNatClampNeg (a0)) (86) 72) < (0 : Int32) ∨ 30 ≤ (hI (hsI (h) (141) (hI (h) (86) 72).toNatClampNeg (a0)) (86) 72).toNatClampNeg
      · rw [if_pos hg6] at hp; cases hp
      rw [if_neg hg6] at hp
      obtain ⟨h7, e8, hp⟩ := bind_some hp
      try dsimp only at hp
      have e8 := Option.some.inj e8
      have w9 : WF h7 := e8 ▸ w
      by_cases hg10 : (hI (h7) (86) 72) < (0 : Int32) ∨ 30 ≤ (hI (h7) (86) 72).toNatClampNeg
      · rw [if_pos hg10] at hp; cases hp
      rw [if_neg hg10] at hp
      obtain ⟨h11, e12, hp⟩ := bind_some hp
      try dsimp only at hp
      have e12 := Option.some.inj e12
      have w13 : WF h11 := e12 ▸ w9
      have hp := Option.some.inj hp
      subst hp
      exact (w13)
theorem f277_0 : fetch 277 0 = some (.iload_n 1, 0, 0, 0) := rfl
theorem f277_1 : fetch 277 1 = some (.iconst 0, 0, 0, 0) := rfl
theorem f277_2 : fetch 277 2 = some (.aload_n 0, 0, 0, 0) := rfl
theorem f277_3 : fetch 277 3 = some (.getfield 542, 12, 72, 0) := rfl
theorem f277_6 : fetch 277 6 = some (.iconst 1, 0, 0, 0) := rfl
theorem f277_7 : fetch 277 7 = some (.isub, 0, 0, 0) := rfl
theorem f277_8 : fetch 277 8 = some (.invokestatic 240, 187, 3, 1) := rfl
theorem f277_11 : fetch 277 11 = some (.ireturn, 0, 0, 1) := rfl
set_option maxRecDepth 100000 in
set_option maxHeartbeats 4000000 in
theorem p277_ok (d : Nat) (h : HS) (w : WF h) (a0 : Int32) (r : Int32) (hp : p277 h a0 = some r) : ex (d + 1) 277 (ent 277 [.ref (86), .int (a0)] h) = some (some (.int (r)), h) := by
  rw [show ent 277 [.ref (86), .int (a0)] h = (0, [some (.ref (86)), some (.int (a0))], [], h) from by  rfl]
  refine ex_weak (ls := [some (.ref (86)), some (.int (a0))]) (le2_ok ⟨Or.inr rfl, Or.inr rfl, trivial⟩) ?_
  unfold p277 at hp
  refine e_iload_n f277_0 rfl ?_
  refine e_iconst (v := 0) f277_1 (by decide) ?_
  refine e_aload_n f277_2 rfl ?_
  refine e_getI f277_3 (WF.t w 86 (by decide)) (by decide) ?_
  refine e_iconst (v := 1) f277_6 (by decide) ?_
  refine e_isub f277_7 ?_
  obtain ⟨r1, hr2, hp⟩ := bind_some hp
  try dsimp only at hp
  refine e_callS (st := []) (as := [.int (a0), .int (0), .int ((hI (h) (86) 72) - (1))]) f277_8 (by decide) rfl rfl (Nat.le_of_ble_eq_true rfl) (Nat.le_of_ble_eq_true rfl) (p187_ok d (h) w (a0) (0) ((hI (h) (86) 72) - (1)) r1 hr2) ?_
  show ex _ 277 (11, [some (.ref (86)), some (.int (a0))], [.int (r1)], h) = _
  by_cases hg3 : (r1) = (0 : Int32) ∨ (r1) = (1 : Int32)
  rotate_left
  · rw [if_neg hg3] at hp; cases hp
  rw [if_pos hg3] at hp
  have hp := Option.some.inj hp
  subst hp
  exact e_ireturn f277_11 (Or.inr hg3)
theorem f278_0 : fetch 278 0 = some (.iconst 0, 0, 0, 0) := rfl
theorem f278_1 : fetch 278 1 = some (.istore_n 1, 0, 0, 0) := rfl
theorem f278_2 : fetch 278 2 = some (.iload_n 1, 0, 0, 0) := rfl
theorem f278_3 : fetch 278 3 = some (.aload_n 0, 0, 0, 0) := rfl
theorem f278_4 : fetch 278 4 = some (.getfield 314, 12, 20, 0) := rfl
theorem f278_7 : fetch 278 7 = some (.if_icmp .ge 16, 23, 0, 0) := rfl
theorem f278_10 : fetch 278 10 = some (.aload_n 0, 0, 0, 0) := rfl
theorem f278_11 : fetch 278 11 = some (.getfield 198, 12, 83, 2) := rfl
theorem f278_14 : fetch 278 14 = some (.iload_n 1, 0, 0, 0) := rfl
theorem f278_15 : fetch 278 15 = some (.iconst 0, 0, 0, 0) := rfl
theorem f278_16 : fetch 278 16 = some (.bastore, 0, 0, 0) := rfl
theorem f278_17 : fetch 278 17 = some (.iinc 1 1, 0, 0, 0) := rfl
theorem f278_20 : fetch 278 20 = some (.goto (-18), 2, 0, 0) := rfl
theorem f278_23 : fetch 278 23 = some (.iconst 0, 0, 0, 0) := rfl
theorem f278_24 : fetch 278 24 = some (.istore_n 1, 0, 0, 0) := rfl
theorem f278_25 : fetch 278 25 = some (.iload_n 1, 0, 0, 0) := rfl
theorem f278_26 : fetch 278 26 = some (.aload_n 0, 0, 0, 0) := rfl
theorem f278_27 : fetch 278 27 = some (.getfield 326, 12, 31, 0) := rfl
theorem f278_30 : fetch 278 30 = some (.if_icmp .ge 31, 61, 0, 0) := rfl
theorem f278_33 : fetch 278 33 = some (.aload_n 0, 0, 0, 0) := rfl
theorem f278_34 : fetch 278 34 = some (.iload_n 1, 0, 0, 0) := rfl
theorem f278_35 : fetch 278 35 = some (.aload_n 0, 0, 0, 0) := rfl
theorem f278_36 : fetch 278 36 = some (.getfield 244, 12, 1, 0) := rfl
theorem f278_39 : fetch 278 39 = some (.invokevirtual 545, 232, 2, 0) := rfl
theorem f278_42 : fetch 278 42 = some (.istore_n 2, 0, 0, 0) := rfl
theorem f278_43 : fetch 278 43 = some (.iload_n 2, 0, 0, 0) := rfl
theorem f278_44 : fetch 278 44 = some (.iconst (-1), 0, 0, 0) := rfl
theorem f278_45 : fetch 278 45 = some (.if_icmp .eq 10, 55, 0, 0) := rfl
theorem f278_48 : fetch 278 48 = some (.aload_n 0, 0, 0, 0) := rfl
theorem f278_49 : fetch 278 49 = some (.getfield 198, 12, 83, 2) := rfl
theorem f278_52 : fetch 278 52 = some (.iload_n 2, 0, 0, 0) := rfl
theorem f278_53 : fetch 278 53 = some (.iconst 1, 0, 0, 0) := rfl
theorem f278_54 : fetch 278 54 = some (.bastore, 0, 0, 0) := rfl
theorem f278_55 : fetch 278 55 = some (.iinc 1 1, 0, 0, 0) := rfl
theorem f278_58 : fetch 278 58 = some (.goto (-33), 25, 0, 0) := rfl
theorem f278_61 : fetch 278 61 = some (.return_, 0, 0, 0) := rfl
set_option maxRecDepth 100000 in
set_option maxHeartbeats 4000000 in
theorem p278_j55_ok (d : Nat) (F : Nat) (K25 : HS → Int32 → Option (HS)) (hK25 : ∀ (h : HS) (w : WF h) (u1 : Int32) (r : HS), K25 h u1 = some r → ex (d + 7) 278 (25, [some (.ref (86)), some (.int (u1)), none], [], h) = some (none, r)) (h : HS) (w : WF h) (v1 : Int32) (r : HS) (hp : p278_j55 F K25 h v1 = some r) : ex (d + 7) 278 (55, [some (.ref (86)), some (.int (v1)), none], [], h) = some (none, r) := by
  unfold p278_j55 at hp
  refine e_iinc (ls2 := [some (.ref (86)), some (.int ((v1) + 1)), none]) f278_55 (by decide) rfl rfl ?_
  refine e_goto f278_58 ?_
  refine ex_weak (ls := [some (.ref (86)), some (.int ((v1) + 1)), none]) (le2_ok ⟨Or.inr rfl, Or.inr rfl, Or.inl rfl, trivial⟩) ?_
  exact hK25 (h) (w) ((v1) + 1) _ hp
set_option maxRecDepth 100000 in
set_option maxHeartbeats 4000000 in
theorem p278_j55_w (F : Nat) (K25 : HS → Int32 → Option (HS)) (hK25 : ∀ (h : HS) (w : WF h) (u1 : Int32) (r : HS), K25 h u1 = some r → WF r) (h : HS) (w : WF h) (v1 : Int32) (r : HS) (hp : p278_j55 F K25 h v1 = some r) : WF r := by
  unfold p278_j55 at hp
  exact hK25 (h) (w) ((v1) + 1) _ hp
set_option maxRecDepth 100000 in
set_option maxHeartbeats 4000000 in
theorem p278_L25_ok (d : Nat) (F : Nat) : ∀ (n : Nat) (h : HS) (w : WF h) (v1 : Int32) (r : HS), p278_L25 F n h v1 = some r → ex (d + 7) 278 (25, [some (.ref (86)), some (.int (v1)), none], [], h) = some (none, r) := by
  intro n
  induction n with
  | zero => intro h w v1 r hp; cases hp
  | succ n ih =>
    intro h w v1 r hp
    unfold p278_L25 at hp
    refine e_iload_n f278_25 rfl ?_
    refine e_aload_n f278_26 rfl ?_
    refine e_getI f278_27 (WF.t w 86 (by decide)) (by decide) ?_
    by_cases hc3 : (v1) < ((hI (h) (86) 31) : Int32)
    · rw [if_pos hc3] at hp
      refine e_icmp_ge_f f278_30 hc3 ?_
      refine e_aload_n f278_33 rfl ?_
      refine e_iload_n f278_34 rfl ?_
      refine e_aload_n f278_35 rfl ?_
      refine e_getI f278_36 (WF.t w 86 (by decide)) (by decide) ?_
      obtain ⟨r4, hr5, hp⟩ := bind_some hp
      try dsimp only at hp
      refine e_callV (st := []) (o := 86) (as := [.int (v1), .int (hI (h) (86) 1)]) f278_39 (by decide) rfl rfl (Nat.le_of_ble_eq_true rfl) (WF.t w 86 (by decide)) (Nat.le_of_ble_eq_true rfl) (p232_ok d F (h) w (v1) (hI (h) (86) 1) r4 hr5) ?_
      show ex _ 278 (42, [some (.ref (86)), some (.int (v1)), none], [.int (r4)], h) = _
      refine e_istore_n (ls2 := [some (.ref (86)), some (.int (v1)), some (.int (r4))]) f278_42 (Nat.le_of_ble_eq_true rfl) rfl ?_
      refine e_iload_n f278_43 rfl ?_
      refine e_iconst (v := -1) f278_44 (by decide) ?_
      by_cases hc6 : (r4) = (((-1)) : Int32)
      · rw [if_pos hc6] at hp
        refine e_icmp_eq_t f278_45 hc6 ?_
        refine ex_weak (ls := [some (.ref (86)), some (.int (v1)), none]) (le2_ok ⟨Or.inr rfl, Or.inr rfl, Or.inl rfl, trivial⟩) ?_
        exact p278_j55_ok d F ((p278_L25 F n)) (ih) (h) (w) (v1) _ hp
      · rw [if_neg hc6] at hp
        refine e_icmp_eq_f f278_45 hc6 ?_
        refine e_aload_n f278_48 rfl ?_
        refine e_getR f278_49 (WF.t w 86 (by decide)) rfl (WF.r (q := 147) w 86 83 (by decide)) ?_
        refine e_iload_n f278_52 rfl ?_
        refine e_iconst (v := 1) f278_53 (by decide) ?_
        by_cases hg7 : (r4) < (0 : Int32) ∨ 60 ≤ (r4).toNatClampNeg
        · rw [if_pos hg7] at hp; cases hp
        rw [if_neg hg7] at hp
        refine e_zastore f278_54 (WF.t w 147 (by decide)) (WF.n w 147 (by decide)) hg7 ?_
        refine ex_weak (ls := [some (.ref (86)), some (.int (v1)), none]) (le2_ok ⟨Or.inr rfl, Or.inr rfl, Or.inl rfl, trivial⟩) ?_
        exact p278_j55_ok d F ((p278_L25 F n)) (ih) (hsI (h) (147) (r4).toNatClampNeg (vp_nar .boolean (1))) (w) (v1) _ hp
    · rw [if_neg hc3] at hp
      refine e_icmp_ge_t f278_30 hc3 ?_
      have hp := Option.some.inj hp
      subst hp
      exact e_return f278_61
set_option maxRecDepth 100000 in
set_option maxHeartbeats 4000000 in
theorem p278_L25_w (F : Nat) : ∀ (n : Nat) (h : HS) (w : WF h) (v1 : Int32) (r : HS), p278_L25 F n h v1 = some r → WF r := by
  intro n
  induction n with
  | zero => intro h w v1 r hp; cases hp
  | succ n ih =>
    intro h w v1 r hp
    unfold p278_L25 at hp
    by_cases hc3 : (v1) < ((hI (h) (86) 31) : Int32)
    · rw [if_pos hc3] at hp
      obtain ⟨r4, hr5, hp⟩ := bind_some hp
      try dsimp only at hp
      by_cases hc6 : (r4) = (((-1)) : Int32)
      · rw [if_pos hc6] at hp
        exact p278_j55_w F ((p278_L25 F n)) (ih) (h) (w) (v1) _ hp
      · rw [if_neg hc6] at hp
        by_cases hg7 : (r4) < (0 : Int32) ∨ 60 ≤ (r4).toNatClampNeg
        · rw [if_pos hg7] at hp; cases hp
        rw [if_neg hg7] at hp
        exact p278_j55_w F ((p278_L25 F n)) (ih) (hsI (h) (147) (r4).toNatClampNeg (vp_nar .boolean (1))) (w) (v1) _ hp
    · rw [if_neg hc3] at hp
      have hp := Option.some.inj hp
      subst hp
      exact (w)
set_option maxRecDepth 100000 in
set_option maxHeartbeats 4000000 in
theorem p278_L2_ok (d : Nat) (F : Nat) : ∀ (n : Nat) (h : HS) (w : WF h) (v1 : Int32) (r : HS), p278_L2 F n h v1 = some r → ex (d + 7) 278 (2, [some (.ref (86)), some (.int (v1)), none], [], h) = some (none, r) := by
  intro n
  induction n with
  | zero => intro h w v1 r hp; cases hp
  | succ n ih =>
    intro h w v1 r hp
    unfold p278_L2 at hp
    refine e_iload_n f278_2 rfl ?_
    refine e_aload_n f278_3 rfl ?_
    refine e_getI f278_4 (WF.t w 86 (by decide)) (by decide) ?_
    by_cases hc1 : (v1) < ((hI (h) (86) 20) : Int32)
    · rw [if_pos hc1] at hp
      refine e_icmp_ge_f f278_7 hc1 ?_
      refine e_aload_n f278_10 rfl ?_
      refine e_getR f278_11 (WF.t w 86 (by decide)) rfl (WF.r (q := 147) w 86 83 (by decide)) ?_
      refine e_iload_n f278_14 rfl ?_
      refine e_iconst (v := 0) f278_15 (by decide) ?_
      by_cases hg2 : (v1) < (0 : Int32) ∨ 60 ≤ (v1).toNatClampNeg
      · rw [if_pos hg2] at hp; cases hp
      rw [if_neg hg2] at hp
      refine e_zastore f278_16 (WF.t w 147 (by decide)) (WF.n w 147 (by decide)) hg2 ?_
      refine e_iinc (ls2 := [some (.ref (86)), some (.int ((v1) + 1)), none]) f278_17 (by decide) rfl rfl ?_
      refine e_goto f278_20 ?_
      refine ex_weak (ls := [some (.ref (86)), some (.int ((v1) + 1)), none]) (le2_ok ⟨Or.inr rfl, Or.inr rfl, Or.inl rfl, trivial⟩) ?_
      exact ih (hsI (h) (147) (v1).toNatClampNeg (vp_nar .boolean (0))) (w) ((v1) + 1) _ hp
    · rw [if_neg hc1] at hp
      refine e_icmp_ge_t f278_7 hc1 ?_
      refine e_iconst (v := 0) f278_23 (by decide) ?_
      refine e_istore_n (ls2 := [some (.ref (86)), some (.int (0)), none]) f278_24 (Nat.le_of_ble_eq_true rfl) rfl ?_
      refine ex_weak (ls := [some (.ref (86)), some (.int (0)), none]) (le2_ok ⟨Or.inr rfl, Or.inr rfl, Or.inl rfl, trivial⟩) ?_
      exact p278_L25_ok d F F (h) (w) (0) _ hp
set_option maxRecDepth 100000 in
set_option maxHeartbeats 4000000 in
theorem p278_L2_w (F : Nat) : ∀ (n : Nat) (h : HS) (w : WF h) (v1 : Int32) (r : HS), p278_L2 F n h v1 = some r → WF r := by
  intro n
  induction n with
  | zero => intro h w v1 r hp; cases hp
  | succ n ih =>
    intro h w v1 r hp
    unfold p278_L2 at hp
    by_cases hc1 : (v1) < ((hI (h) (86) 20) : Int32)
    · rw [if_pos hc1] at hp
      by_cases hg2 : (v1) < (0 : Int32) ∨ 60 ≤ (v1).toNatClampNeg
      · rw [if_pos hg2] at hp; cases hp
      rw [if_neg hg2] at hp
      exact ih (hsI (h) (147) (v1).toNatClampNeg (vp_nar .boolean (0))) (w) ((v1) + 1) _ hp
    · rw [if_neg hc1] at hp
      exact p278_L25_w F F (h) (w) (0) _ hp
set_option maxRecDepth 100000 in
set_option maxHeartbeats 4000000 in
theorem p278_ok (d : Nat) (F : Nat) (h : HS) (w : WF h) (r : HS) (hp : p278 F h = some r) : ex (d + 7) 278 (ent 278 [.ref (86)] h) = some (none, r) := by
  rw [show ent 278 [.ref (86)] h = (0, [some (.ref (86)), none, none], [], h) from by  rfl]
  refine ex_weak (ls := [some (.ref (86)), none, none]) (le2_ok ⟨Or.inr rfl, Or.inr rfl, Or.inr rfl, trivial⟩) ?_
  unfold p278 at hp
  refine e_iconst (v := 0) f278_0 (by decide) ?_
  refine e_istore_n (ls2 := [some (.ref (86)), some (.int (0)), none]) f278_1 (Nat.le_of_ble_eq_true rfl) rfl ?_
  refine ex_weak (ls := [some (.ref (86)), some (.int (0)), none]) (le2_ok ⟨Or.inr rfl, Or.inr rfl, Or.inl rfl, trivial⟩) ?_
  exact p278_L2_ok d F F (h) (w) (0) _ hp
set_option maxRecDepth 100000 in
set_option maxHeartbeats 4000000 in
theorem p278_w (F : Nat) (h : HS) (w : WF h) (r : HS) (hp : p278 F h = some r) : WF r := by
  unfold p278 at hp
  exact p278_L2_w F F (h) (w) (0) _ hp
theorem f279_0 : fetch 279 0 = some (.aload_n 0, 0, 0, 0) := rfl
theorem f279_1 : fetch 279 1 = some (.getfield 163, 12, 71, 2) := rfl
theorem f279_4 : fetch 279 4 = some (.iconst 5, 0, 0, 0) := rfl
theorem f279_5 : fetch 279 5 = some (.aload_n 0, 0, 0, 0) := rfl
theorem f279_6 : fetch 279 6 = some (.getfield 191, 12, 81, 2) := rfl
theorem f279_9 : fetch 279 9 = some (.iload_n 1, 0, 0, 0) := rfl
theorem f279_10 : fetch 279 10 = some (.baload, 0, 0, 0) := rfl
theorem f279_11 : fetch 279 11 = some (.invokestatic 533, 271, 1, 1) := rfl
theorem f279_14 : fetch 279 14 = some (.lastore, 0, 0, 0) := rfl
theorem f279_15 : fetch 279 15 = some (.aload_n 0, 0, 0, 0) := rfl
theorem f279_16 : fetch 279 16 = some (.getfield 163, 12, 71, 2) := rfl
theorem f279_19 : fetch 279 19 = some (.bipush 6, 0, 0, 0) := rfl
theorem f279_21 : fetch 279 21 = some (.aload_n 0, 0, 0, 0) := rfl
theorem f279_22 : fetch 279 22 = some (.getfield 182, 12, 78, 2) := rfl
theorem f279_25 : fetch 279 25 = some (.iload_n 1, 0, 0, 0) := rfl
theorem f279_26 : fetch 279 26 = some (.iaload, 0, 0, 0) := rfl
theorem f279_27 : fetch 279 27 = some (.iconst (-1), 0, 0, 0) := rfl
theorem f279_28 : fetch 279 28 = some (.if_icmp .ne 7, 35, 0, 0) := rfl
theorem f279_31 : fetch 279 31 = some (.lconst 0, 0, 0, 0) := rfl
theorem f279_32 : fetch 279 32 = some (.goto 15, 47, 0, 0) := rfl
theorem f279_35 : fetch 279 35 = some (.aload_n 0, 0, 0, 0) := rfl
theorem f279_36 : fetch 279 36 = some (.getfield 244, 12, 1, 0) := rfl
theorem f279_39 : fetch 279 39 = some (.aload_n 0, 0, 0, 0) := rfl
theorem f279_40 : fetch 279 40 = some (.getfield 185, 12, 79, 2) := rfl
theorem f279_43 : fetch 279 43 = some (.iload_n 1, 0, 0, 0) := rfl
theorem f279_44 : fetch 279 44 = some (.iaload, 0, 0, 0) := rfl
theorem f279_45 : fetch 279 45 = some (.isub, 0, 0, 0) := rfl
theorem f279_46 : fetch 279 46 = some (.i2l, 0, 0, 0) := rfl
theorem f279_47 : fetch 279 47 = some (.lastore, 0, 0, 0) := rfl
theorem f279_48 : fetch 279 48 = some (.aload_n 0, 0, 0, 0) := rfl
theorem f279_49 : fetch 279 49 = some (.getfield 163, 12, 71, 2) := rfl
theorem f279_52 : fetch 279 52 = some (.bipush 7, 0, 0, 0) := rfl
theorem f279_54 : fetch 279 54 = some (.aload_n 0, 0, 0, 0) := rfl
theorem f279_55 : fetch 279 55 = some (.getfield 188, 12, 80, 2) := rfl
theorem f279_58 : fetch 279 58 = some (.iload_n 1, 0, 0, 0) := rfl
theorem f279_59 : fetch 279 59 = some (.iaload, 0, 0, 0) := rfl
theorem f279_60 : fetch 279 60 = some (.aload_n 0, 0, 0, 0) := rfl
theorem f279_61 : fetch 279 61 = some (.getfield 182, 12, 78, 2) := rfl
theorem f279_64 : fetch 279 64 = some (.iload_n 1, 0, 0, 0) := rfl
theorem f279_65 : fetch 279 65 = some (.iaload, 0, 0, 0) := rfl
theorem f279_66 : fetch 279 66 = some (.iconst (-1), 0, 0, 0) := rfl
theorem f279_67 : fetch 279 67 = some (.if_icmp .ne 7, 74, 0, 0) := rfl
theorem f279_70 : fetch 279 70 = some (.iconst 0, 0, 0, 0) := rfl
theorem f279_71 : fetch 279 71 = some (.goto 4, 75, 0, 0) := rfl
theorem f279_74 : fetch 279 74 = some (.iconst 1, 0, 0, 0) := rfl
theorem f279_75 : fetch 279 75 = some (.isub, 0, 0, 0) := rfl
theorem f279_76 : fetch 279 76 = some (.i2l, 0, 0, 0) := rfl
theorem f279_77 : fetch 279 77 = some (.lastore, 0, 0, 0) := rfl
theorem f279_78 : fetch 279 78 = some (.return_, 0, 0, 0) := rfl
set_option maxRecDepth 100000 in
set_option maxHeartbeats 4000000 in
theorem p279_j75_ok (d : Nat) (a0 : Int32) (h : HS) (w : WF h) (s0 : Int32) (s1 : Int32) (s2 : Int32) (r : HS) (hp : p279_j75 a0 h s0 s1 s2 = some r) : ex (d + 1) 279 (75, [none, none], [.int (s0), .int (s1), .int (s2), .ref (137)], h) = some (none, r) := by
  unfold p279_j75 at hp
  refine e_isub f279_75 ?_
  refine e_i2l f279_76 ?_
  by_cases hg12 : (s2) < (0 : Int32) ∨ 11 ≤ (s2).toNatClampNeg
  · rw [if_pos hg12] at hp; cases hp
  rw [if_neg hg12] at hp
  refine e_lastore f279_77 (WF.t w 137 (by decide)) (WF.n w 137 (by decide)) hg12 ?_
  have hp := Option.some.inj hp
  subst hp
  exact e_return f279_78
set_option maxRecDepth 100000 in
set_option maxHeartbeats 4000000 in
theorem p279_j75_w (a0 : Int32) (h : HS) (w : WF h) (s0 : Int32) (s1 : Int32) (s2 : Int32) (r : HS) (hp : p279_j75 a0 h s0 s1 s2 = some r) : WF r := by
  unfold p279_j75 at hp
  by_cases hg12 : (s2) < (0 : Int32) ∨ 11 ≤ (s2).toNatClampNeg
  · rw [if_pos hg12] at hp; cases hp
  rw [if_neg hg12] at hp
  have hp := Option.some.inj hp
  subst hp
  exact (w)
set_option maxRecDepth 100000 in
set_option maxHeartbeats 4000000 in
theorem p279_j47_ok (d : Nat) (a0 : Int32) (h : HS) (w : WF h) (s0 : Int64) (s1 : Int32) (r : HS) (hp : p279_j47 a0 h s0 s1 = some r) : ex (d + 1) 279 (47, [some (.ref (86)), some (.int (a0))], [.long (s0), .int (s1), .ref (137)], h) = some (none, r) := by
  unfold p279_j47 at hp
  by_cases hg8 : (s1) < (0 : Int32) ∨ 11 ≤ (s1).toNatClampNeg
  · rw [if_pos hg8] at hp; cases hp
  rw [if_neg hg8] at hp
  refine e_lastore f279_47 (WF.t w 137 (by decide)) (WF.n w 137 (by decide)) hg8 ?_
  refine e_aload_n f279_48 rfl ?_
  refine e_getR f279_49 (WF.t w 86 (by decide)) rfl (WF.r (q := 137) w 86 71 (by decide)) ?_
  refine e_bipush (v := 7) f279_52 (by decide) ?_
  refine e_aload_n f279_54 rfl ?_
  refine e_getR f279_55 (WF.t w 86 (by decide)) rfl (WF.r (q := 144) w 86 80 (by decide)) ?_
  refine e_iload_n f279_58 rfl ?_
  by_cases hg9 : (a0) < (0 : Int32) ∨ 30 ≤ (a0).toNatClampNeg
  · rw [if_pos hg9] at hp; cases hp
  rw [if_neg hg9] at hp
  refine e_iaload f279_59 (Or.inl (WF.t w 144 (by decide))) (WF.n w 144 (by decide)) hg9 ?_
  refine e_aload_n f279_60 rfl ?_
  refine e_getR f279_61 (WF.t w 86 (by decide)) rfl (WF.r (q := 142) w 86 78 (by decide)) ?_
  refine e_iload_n f279_64 rfl ?_
  by_cases hg10 : (a0) < (0 : Int32) ∨ 30 ≤ (a0).toNatClampNeg
  · rw [if_pos hg10] at hp; cases hp
  rw [if_neg hg10] at hp
  refine e_iaload f279_65 (Or.inl (WF.t w 142 (by decide))) (WF.n w 142 (by decide)) hg10 ?_
  refine e_iconst (v := -1) f279_66 (by decide) ?_
  by_cases hc11 : (hI (hsL (h) (137) (s1).toNatClampNeg (s0)) (142) (a0).toNatClampNeg) = (((-1)) : Int32)
  · rw [if_pos hc11] at hp
    refine e_icmp_ne_f f279_67 hc11 ?_
    refine e_iconst (v := 0) f279_70 (by decide) ?_
    refine e_goto f279_71 ?_
    refine ex_weak (ls := [none, none]) (le2_ok ⟨Or.inl rfl, Or.inl rfl, trivial⟩) ?_
    exact p279_j75_ok d a0 (hsL (h) (137) (s1).toNatClampNeg (s0)) (w) (0) (hI (hsL (h) (137) (s1).toNatClampNeg (s0)) (144) (a0).toNatClampNeg) (7) _ hp
  · rw [if_neg hc11] at hp
    refine e_icmp_ne_t f279_67 hc11 ?_
    refine e_iconst (v := 1) f279_74 (by decide) ?_
    refine ex_weak (ls := [none, none]) (le2_ok ⟨Or.inl rfl, Or.inl rfl, trivial⟩) ?_
    exact p279_j75_ok d a0 (hsL (h) (137) (s1).toNatClampNeg (s0)) (w) (1) (hI (hsL (h) (137) (s1).toNatClampNeg (s0)) (144) (a0).toNatClampNeg) (7) _ hp
set_option maxRecDepth 100000 in
set_option maxHeartbeats 4000000 in
theorem p279_j47_w (a0 : Int32) (h : HS) (w : WF h) (s0 : Int64) (s1 : Int32) (r : HS) (hp : p279_j47 a0 h s0 s1 = some r) : WF r := by
  unfold p279_j47 at hp
  by_cases hg8 : (s1) < (0 : Int32) ∨ 11 ≤ (s1).toNatClampNeg
  · rw [if_pos hg8] at hp; cases hp
  rw [if_neg hg8] at hp
  by_cases hg9 : (a0) < (0 : Int32) ∨ 30 ≤ (a0).toNatClampNeg
  · rw [if_pos hg9] at hp; cases hp
  rw [if_neg hg9] at hp
  by_cases hg10 : (a0) < (0 : Int32) ∨ 30 ≤ (a0).toNatClampNeg
  · rw [if_pos hg10] at hp; cases hp
  rw [if_neg hg10] at hp
  by_cases hc11 : (hI (hsL (h) (137) (s1).toNatClampNeg (s0)) (142) (a0).toNatClampNeg) = (((-1)) : Int32)
  · rw [if_pos hc11] at hp
    exact p279_j75_w a0 (hsL (h) (137) (s1).toNatClampNeg (s0)) (w) (0) (hI (hsL (h) (137) (s1).toNatClampNeg (s0)) (144) (a0).toNatClampNeg) (7) _ hp
  · rw [if_neg hc11] at hp
    exact p279_j75_w a0 (hsL (h) (137) (s1).toNatClampNeg (s0)) (w) (1) (hI (hsL (h) (137) (s1).toNatClampNeg (s0)) (144) (a0).toNatClampNeg) (7) _ hp
set_option maxRecDepth 100000 in
set_option maxHeartbeats 4000000 in
theorem p279_ok (d : Nat) (h : HS) (w : WF h) (a0 : Int32) (r : HS) (hp : p279 h a0 = some r) : ex (d + 1) 279 (ent 279 [.ref (86), .int (a0)] h) = some (none, r) := by
  rw [show ent 279 [.ref (86), .int (a0)] h = (0, [some (.ref (86)), some (.int (a0))], [], h) from by  rfl]
  refine ex_weak (ls := [some (.ref (86)), some (.int (a0))]) (le2_ok ⟨Or.inr rfl, Or.inr rfl, trivial⟩) ?_
  unfold p279 at hp
  refine e_aload_n f279_0 rfl ?_
  refine e_getR f279_1 (WF.t w 86 (by decide)) rfl (WF.r (q := 137) w 86 71 (by decide)) ?_
  refine e_iconst (v := 5) f279_4 (by decide) ?_
  refine e_aload_n f279_5 rfl ?_
  refine e_getR f279_6 (WF.t w 86 (by decide)) rfl (WF.r (q := 145) w 86 81 (by decide)) ?_
  refine e_iload_n f279_9 rfl ?_
  by_cases hg1 : (a0) < (0 : Int32) ∨ 30 ≤ (a0).toNatClampNeg
  · rw [if_pos hg1] at hp; cases hp
  rw [if_neg hg1] at hp
  refine e_baload f279_10 (Or.inr (WF.t w 145 (by decide))) (WF.n w 145 (by decide)) hg1 ?_
  obtain ⟨r2, hr3, hp⟩ := bind_some hp
  try dsimp only at hp
  refine e_callS (st := [.int (5), .ref (137)]) (as := [.int (hI (h) (145) (a0).toNatClampNeg)]) f279_11 (by decide) rfl rfl (Nat.le_of_ble_eq_true rfl) (Nat.le_of_ble_eq_true rfl) (p271_ok d (h) w (hI (h) (145) (a0).toNatClampNeg) r2 hr3) ?_
  show ex _ 279 (14, [some (.ref (86)), some (.int (a0))], [.long (r2), .int (5), .ref (137)], h) = _
  by_cases hg4 : (5) < (0 : Int32) ∨ 11 ≤ (5 : Int32).toNatClampNeg
  · rw [if_pos hg4] at hp; cases hp
  rw [if_neg hg4] at hp
  refine e_lastore f279_14 (WF.t w 137 (by decide)) (WF.n w 137 (by decide)) hg4 ?_
  refine e_aload_n f279_15 rfl ?_
  refine e_getR f279_16 (WF.t w 86 (by decide)) rfl (WF.r (q := 137) w 86 71 (by decide)) ?_
  refine e_bipush (v := 6) f279_19 (by decide) ?_
  refine e_aload_n f279_21 rfl ?_
  refine e_getR f279_22 (WF.t w 86 (by decide)) rfl (WF.r (q := 142) w 86 78 (by decide)) ?_
  refine e_iload_n f279_25 rfl ?_
  by_cases hg5 : (a0) < (0 : Int32) ∨ 30 ≤ (a0).toNatClampNeg
  · rw [if_pos hg5] at hp; cases hp
  rw [if_neg hg5] at hp
  refine e_iaload f279_26 (Or.inl (WF.t w 142 (by decide))) (WF.n w 142 (by decide)) hg5 ?_
  refine e_iconst (v := -1) f279_27 (by decide) ?_
  by_cases hc6 : (hI (hsL (h) (137) (5 : Int32).toNatClampNeg (r2)) (142) (a0).toNatClampNeg) = (((-1)) : Int32)
  · rw [if_pos hc6] at hp
    refine e_icmp_ne_f f279_28 hc6 ?_
    refine e_lconst (v := 0) f279_31 (by decide) ?_
    refine e_goto f279_32 ?_
    refine ex_weak (ls := [some (.ref (86)), some (.int (a0))]) (le2_ok ⟨Or.inr rfl, Or.inr rfl, trivial⟩) ?_
    exact p279_j47_ok d a0 (hsL (h) (137) (5 : Int32).toNatClampNeg (r2)) (w) (0) (6) _ hp
  · rw [if_neg hc6] at hp
    refine e_icmp_ne_t f279_28 hc6 ?_
    refine e_aload_n f279_35 rfl ?_
    refine e_getI f279_36 (WF.t w 86 (by decide)) (by decide) ?_
    refine e_aload_n f279_39 rfl ?_
    refine e_getR f279_40 (WF.t w 86 (by decide)) rfl (WF.r (q := 143) w 86 79 (by decide)) ?_
    refine e_iload_n f279_43 rfl ?_
    by_cases hg7 : (a0) < (0 : Int32) ∨ 30 ≤ (a0).toNatClampNeg
    · rw [if_pos hg7] at hp; cases hp
    rw [if_neg hg7] at hp
    refine e_iaload f279_44 (Or.inl (WF.t w 143 (by decide))) (WF.n w 143 (by decide)) hg7 ?_
    refine e_isub f279_45 ?_
    refine e_i2l f279_46 ?_
    refine ex_weak (ls := [some (.ref (86)), some (.int (a0))]) (le2_ok ⟨Or.inr rfl, Or.inr rfl, trivial⟩) ?_
    exact p279_j47_ok d a0 (hsL (h) (137) (5 : Int32).toNatClampNeg (r2)) (w) (((hI (hsL (h) (137) (5 : Int32).toNatClampNeg (r2)) (86) 1) - (hI (hsL (h) (137) (5 : Int32).toNatClampNeg (r2)) (143) (a0).toNatClampNeg)).toInt64) (6) _ hp
set_option maxRecDepth 100000 in
set_option maxHeartbeats 4000000 in
theorem p279_w (h : HS) (w : WF h) (a0 : Int32) (r : HS) (hp : p279 h a0 = some r) : WF r := by
  unfold p279 at hp
  by_cases hg1 : (a0) < (0 : Int32) ∨ 30 ≤ (a0).toNatClampNeg
  · rw [if_pos hg1] at hp; cases hp
  rw [if_neg hg1] at hp
  obtain ⟨r2, hr3, hp⟩ := bind_some hp
  try dsimp only at hp
  by_cases hg4 : (5) < (0 : Int32) ∨ 11 ≤ (5 : Int32).toNatClampNeg
  · rw [if_pos hg4] at hp; cases hp
  rw [if_neg hg4] at hp
  by_cases hg5 : (a0) < (0 : Int32) ∨ 30 ≤ (a0).toNatClampNeg
  · rw [if_pos hg5] at hp; cases hp
  rw [if_neg hg5] at hp
  by_cases hc6 : (hI (hsL (h) (137) (5 : Int32).toNatClampNeg (r2)) (142) (a0).toNatClampNeg) = (((-1)) : Int32)
  · rw [if_pos hc6] at hp
    exact p279_j47_w a0 (hsL (h) (137) (5 : Int32).toNatClampNeg (r2)) (w) (0) (6) _ hp
  · rw [if_neg hc6] at hp
    by_cases hg7 : (a0) < (0 : Int32) ∨ 30 ≤ (a0).toNatClampNeg
    · rw [if_pos hg7] at hp; cases hp
    rw [if_neg hg7] at hp
    exact p279_j47_w a0 (hsL (h) (137) (5 : Int32).toNatClampNeg (r2)) (w) (((hI (hsL (h) (137) (5 : Int32).toNatClampNeg (r2)) (86) 1) - (hI (hsL (h) (137) (5 : Int32).toNatClampNeg (r2)) (143) (a0).toNatClampNeg)).toInt64) (6) _ hp
theorem f280_0 : fetch 280 0 = some (.aload_n 0, 0, 0, 0) := rfl
theorem f280_1 : fetch 280 1 = some (.getfield 163, 12, 71, 2) := rfl
theorem f280_4 : fetch 280 4 = some (.iconst 3, 0, 0, 0) := rfl
theorem f280_5 : fetch 280 5 = some (.aload_n 0, 0, 0, 0) := rfl
theorem f280_6 : fetch 280 6 = some (.getfield 244, 12, 1, 0) := rfl
theorem f280_9 : fetch 280 9 = some (.aload_n 0, 0, 0, 0) := rfl
theorem f280_10 : fetch 280 10 = some (.getfield 34, 12, 15, 2) := rfl
theorem f280_13 : fetch 280 13 = some (.iload_n 1, 0, 0, 0) := rfl
theorem f280_14 : fetch 280 14 = some (.iaload, 0, 0, 0) := rfl
theorem f280_15 : fetch 280 15 = some (.isub, 0, 0, 0) := rfl
theorem f280_16 : fetch 280 16 = some (.i2l, 0, 0, 0) := rfl
theorem f280_17 : fetch 280 17 = some (.lastore, 0, 0, 0) := rfl
theorem f280_18 : fetch 280 18 = some (.aload_n 0, 0, 0, 0) := rfl
theorem f280_19 : fetch 280 19 = some (.getfield 163, 12, 71, 2) := rfl
theorem f280_22 : fetch 280 22 = some (.iconst 4, 0, 0, 0) := rfl
theorem f280_23 : fetch 280 23 = some (.aload_n 0, 0, 0, 0) := rfl
theorem f280_24 : fetch 280 24 = some (.getfield 46, 12, 19, 2) := rfl
theorem f280_27 : fetch 280 27 = some (.iload_n 1, 0, 0, 0) := rfl
theorem f280_28 : fetch 280 28 = some (.iaload, 0, 0, 0) := rfl
theorem f280_29 : fetch 280 29 = some (.i2l, 0, 0, 0) := rfl
theorem f280_30 : fetch 280 30 = some (.lastore, 0, 0, 0) := rfl
theorem f280_31 : fetch 280 31 = some (.return_, 0, 0, 0) := rfl
set_option maxRecDepth 100000 in
set_option maxHeartbeats 4000000 in
theorem p280_ok (d : Nat) (h : HS) (w : WF h) (a0 : Int32) (r : HS) (hp : p280 h a0 = some r) : ex (d + 0) 280 (ent 280 [.ref (86), .int (a0)] h) = some (none, r) := by
  rw [show ent 280 [.ref (86), .int (a0)] h = (0, [some (.ref (86)), some (.int (a0))], [], h) from by  rfl]
  refine ex_weak (ls := [some (.ref (86)), some (.int (a0))]) (le2_ok ⟨Or.inr rfl, Or.inr rfl, trivial⟩) ?_
  unfold p280 at hp
  refine e_aload_n f280_0 rfl ?_
  refine e_getR f280_1 (WF.t w 86 (by decide)) rfl (WF.r (q := 137) w 86 71 (by decide)) ?_
  refine e_iconst (v := 3) f280_4 (by decide) ?_
  refine e_aload_n f280_5 rfl ?_
  refine e_getI f280_6 (WF.t w 86 (by decide)) (by decide) ?_
  refine e_aload_n f280_9 rfl ?_
  refine e_getR f280_10 (WF.t w 86 (by decide)) rfl (WF.r (q := 95) w 86 15 (by decide)) ?_
  refine e_iload_n f280_13 rfl ?_
  by_cases hg1 : (a0) < (0 : Int32) ∨ 200 ≤ (a0).toNatClampNeg
  · rw [if_pos hg1] at hp; cases hp
  rw [if_neg hg1] at hp
  refine e_iaload f280_14 (Or.inl (WF.t w 95 (by decide))) (WF.n w 95 (by decide)) hg1 ?_
  refine e_isub f280_15 ?_
  refine e_i2l f280_16 ?_
  by_cases hg2 : (3) < (0 : Int32) ∨ 11 ≤ (3 : Int32).toNatClampNeg
  · rw [if_pos hg2] at hp; cases hp
  rw [if_neg hg2] at hp
  refine e_lastore f280_17 (WF.t w 137 (by decide)) (WF.n w 137 (by decide)) hg2 ?_
  obtain ⟨h3, e4, hp⟩ := bind_some hp
  try dsimp only at hp
  have e4 := Option.some.inj e4
  have w5 : WF h3 := e4 ▸ w
  rw [e4]
  refine e_aload_n f280_18 rfl ?_
  refine e_getR f280_19 (WF.t w5 86 (by decide)) rfl (WF.r (q := 137) w5 86 71 (by decide)) ?_
  refine e_iconst (v := 4) f280_22 (by decide) ?_
  refine e_aload_n f280_23 rfl ?_
  refine e_getR f280_24 (WF.t w5 86 (by decide)) rfl (WF.r (q := 99) w5 86 19 (by decide)) ?_
  refine e_iload_n f280_27 rfl ?_
  by_cases hg6 : (a0) < (0 : Int32) ∨ 200 ≤ (a0).toNatClampNeg
  · rw [if_pos hg6] at hp; cases hp
  rw [if_neg hg6] at hp
  refine e_iaload f280_28 (Or.inl (WF.t w5 99 (by decide))) (WF.n w5 99 (by decide)) hg6 ?_
  refine e_i2l f280_29 ?_
  by_cases hg7 : (4) < (0 : Int32) ∨ 11 ≤ (4 : Int32).toNatClampNeg
  · rw [if_pos hg7] at hp; cases hp
  rw [if_neg hg7] at hp
  refine e_lastore f280_30 (WF.t w5 137 (by decide)) (WF.n w5 137 (by decide)) hg7 ?_
  have hp := Option.some.inj hp
  subst hp
  exact e_return f280_31
set_option maxRecDepth 100000 in
set_option maxHeartbeats 4000000 in
theorem p280_w (h : HS) (w : WF h) (a0 : Int32) (r : HS) (hp : p280 h a0 = some r) : WF r := by
  unfold p280 at hp
  by_cases hg1 : (a0) < (0 : Int32) ∨ 200 ≤ (a0).toNatClampNeg
  · rw [if_pos hg1] at hp; cases hp
  rw [if_neg hg1] at hp
  by_cases hg2 : (3) < (0 : Int32) ∨ 11 ≤ (3 : Int32).toNatClampNeg
  · rw [if_pos hg2] at hp; cases hp
  rw [if_neg hg2] at hp
  obtain ⟨h3, e4, hp⟩ := bind_some hp
  try dsimp only at hp
  have e4 := Option.some.inj e4
  have w5 : WF h3 := e4 ▸ w
  by_cases hg6 : (a0) < (0 : Int32) ∨ 200 ≤ (a0).toNatClampNeg
  · rw [if_pos hg6] at hp; cases hp
  rw [if_neg hg6] at hp
  by_cases hg7 : (4) < (0 : Int32) ∨ 11 ≤ (4 : Int32).toNatClampNeg
  · rw [if_pos hg7] at hp; cases hp
  rw [if_neg hg7] at hp
  have hp := Option.some.inj hp
  subst hp
  exact (w5)
theorem f281_0 : fetch 281 0 = some (.aload_n 0, 0, 0, 0) := rfl
theorem f281_1 : fetch 281 1 = some (.aload_n 0, 0, 0, 0) := rfl
theorem f281_2 : fetch 281 2 = some (.getfield 244, 12, 1, 0) := rfl
theorem f281_5 : fetch 281 5 = some (.invokevirtual 548, 270, 1, 0) := rfl
theorem f281_8 : fetch 281 8 = some (.aload_n 0, 0, 0, 0) := rfl
theorem f281_9 : fetch 281 9 = some (.iload_n 1, 0, 0, 0) := rfl
theorem f281_10 : fetch 281 10 = some (.invokevirtual 551, 279, 1, 0) := rfl
theorem f281_13 : fetch 281 13 = some (.aload_n 0, 0, 0, 0) := rfl
theorem f281_14 : fetch 281 14 = some (.iload_n 2, 0, 0, 0) := rfl
theorem f281_15 : fetch 281 15 = some (.invokevirtual 554, 280, 1, 0) := rfl
theorem f281_18 : fetch 281 18 = some (.aload_n 0, 0, 0, 0) := rfl
theorem f281_19 : fetch 281 19 = some (.getfield 170, 12, 74, 2) := rfl
theorem f281_22 : fetch 281 22 = some (.bipush 20, 0, 0, 0) := rfl
theorem f281_24 : fetch 281 24 = some (.iload_n 2, 0, 0, 0) := rfl
theorem f281_25 : fetch 281 25 = some (.imul, 0, 0, 0) := rfl
theorem f281_26 : fetch 281 26 = some (.iload_n 3, 0, 0, 0) := rfl
theorem f281_27 : fetch 281 27 = some (.iadd, 0, 0, 0) := rfl
theorem f281_28 : fetch 281 28 = some (.laload, 0, 0, 0) := rfl
theorem f281_29 : fetch 281 29 = some (.lstore 4, 0, 0, 0) := rfl
theorem f281_31 : fetch 281 31 = some (.iconst 0, 0, 0, 0) := rfl
theorem f281_32 : fetch 281 32 = some (.istore 6, 0, 0, 0) := rfl
theorem f281_34 : fetch 281 34 = some (.iload 6, 0, 0, 0) := rfl
theorem f281_36 : fetch 281 36 = some (.aload_n 0, 0, 0, 0) := rfl
theorem f281_37 : fetch 281 37 = some (.getfield 314, 12, 20, 0) := rfl
theorem f281_40 : fetch 281 40 = some (.if_icmp .ge 71, 111, 0, 0) := rfl
theorem f281_43 : fetch 281 43 = some (.lload 4, 0, 0, 0) := rfl
theorem f281_45 : fetch 281 45 = some (.iload 6, 0, 0, 0) := rfl
theorem f281_47 : fetch 281 47 = some (.lshr, 0, 0, 0) := rfl
theorem f281_48 : fetch 281 48 = some (.lconst 1, 0, 0, 0) := rfl
theorem f281_49 : fetch 281 49 = some (.land, 0, 0, 0) := rfl
theorem f281_50 : fetch 281 50 = some (.lconst 1, 0, 0, 0) := rfl
theorem f281_51 : fetch 281 51 = some (.lcmp, 0, 0, 0) := rfl
theorem f281_52 : fetch 281 52 = some (.ifCond .ne 53, 105, 0, 0) := rfl
theorem f281_55 : fetch 281 55 = some (.iload 6, 0, 0, 0) := rfl
theorem f281_57 : fetch 281 57 = some (.aload_n 0, 0, 0, 0) := rfl
theorem f281_58 : fetch 281 58 = some (.getfield 179, 12, 77, 2) := rfl
theorem f281_61 : fetch 281 61 = some (.iload_n 1, 0, 0, 0) := rfl
theorem f281_62 : fetch 281 62 = some (.iaload, 0, 0, 0) := rfl
theorem f281_63 : fetch 281 63 = some (.if_icmp .ne 13, 76, 0, 0) := rfl
theorem f281_66 : fetch 281 66 = some (.aload_n 0, 0, 0, 0) := rfl
theorem f281_67 : fetch 281 67 = some (.getfield 163, 12, 71, 2) := rfl
theorem f281_70 : fetch 281 70 = some (.iconst 0, 0, 0, 0) := rfl
theorem f281_71 : fetch 281 71 = some (.lconst 1, 0, 0, 0) := rfl
theorem f281_72 : fetch 281 72 = some (.lastore, 0, 0, 0) := rfl
theorem f281_73 : fetch 281 73 = some (.goto 32, 105, 0, 0) := rfl
theorem f281_76 : fetch 281 76 = some (.aload_n 0, 0, 0, 0) := rfl
theorem f281_77 : fetch 281 77 = some (.getfield 163, 12, 71, 2) := rfl
theorem f281_80 : fetch 281 80 = some (.iconst 1, 0, 0, 0) := rfl
theorem f281_81 : fetch 281 81 = some (.dup2, 0, 0, 0) := rfl
theorem f281_82 : fetch 281 82 = some (.laload, 0, 0, 0) := rfl
theorem f281_83 : fetch 281 83 = some (.lconst 1, 0, 0, 0) := rfl
theorem f281_84 : fetch 281 84 = some (.ladd, 0, 0, 0) := rfl
theorem f281_85 : fetch 281 85 = some (.lastore, 0, 0, 0) := rfl
theorem f281_86 : fetch 281 86 = some (.aload_n 0, 0, 0, 0) := rfl
theorem f281_87 : fetch 281 87 = some (.getfield 163, 12, 71, 2) := rfl
theorem f281_90 : fetch 281 90 = some (.iconst 2, 0, 0, 0) := rfl
theorem f281_91 : fetch 281 91 = some (.dup2, 0, 0, 0) := rfl
theorem f281_92 : fetch 281 92 = some (.laload, 0, 0, 0) := rfl
theorem f281_93 : fetch 281 93 = some (.aload_n 0, 0, 0, 0) := rfl
theorem f281_94 : fetch 281 94 = some (.getfield 198, 12, 83, 2) := rfl
theorem f281_97 : fetch 281 97 = some (.iload 6, 0, 0, 0) := rfl
theorem f281_99 : fetch 281 99 = some (.baload, 0, 0, 0) := rfl
theorem f281_100 : fetch 281 100 = some (.invokestatic 533, 271, 1, 1) := rfl
theorem f281_103 : fetch 281 103 = some (.ladd, 0, 0, 0) := rfl
theorem f281_104 : fetch 281 104 = some (.lastore, 0, 0, 0) := rfl
theorem f281_105 : fetch 281 105 = some (.iinc 6 1, 0, 0, 0) := rfl
theorem f281_108 : fetch 281 108 = some (.goto (-74), 34, 0, 0) := rfl
theorem f281_111 : fetch 281 111 = some (.aload_n 0, 0, 0, 0) := rfl
theorem f281_112 : fetch 281 112 = some (.aload_n 0, 0, 0, 0) := rfl
theorem f281_113 : fetch 281 113 = some (.aload_n 0, 0, 0, 0) := rfl
theorem f281_114 : fetch 281 114 = some (.getfield 244, 12, 1, 0) := rfl
theorem f281_117 : fetch 281 117 = some (.invokevirtual 526, 268, 1, 0) := rfl
theorem f281_120 : fetch 281 120 = some (.iconst 0, 0, 0, 0) := rfl
theorem f281_121 : fetch 281 121 = some (.invokevirtual 557, 274, 2, 0) := rfl
theorem f281_124 : fetch 281 124 = some (.ireturn, 0, 0, 0) := rfl
set_option maxRecDepth 100000 in
set_option maxHeartbeats 4000000 in
theorem p281_j105_ok (d : Nat) (F : Nat) (a0 : Int32) (a1 : Int32) (a2 : Int32) (K34 : HS → Int64 → Int32 → Option (Int32 × HS)) (hK34 : ∀ (h : HS) (w : WF h) (u4 : Int64) (u6 : Int32) (r : Int32 × HS), K34 h u4 u6 = some r → ex (d + 4) 281 (34, [some (.ref (86)), some (.int (a0)), none, none, some (.long (u4)), none, some (.int (u6))], [], h) = some (some (.int (r.1)), r.2)) (h : HS) (w : WF h) (v4 : Int64) (v6 : Int32) (r : Int32 × HS) (hp : p281_j105 F a0 a1 a2 K34 h v4 v6 = some r) : ex (d + 4) 281 (105, [some (.ref (86)), some (.int (a0)), none, none, some (.long (v4)), none, some (.int (v6))], [], h) = some (some (.int (r.1)), r.2) := by
  unfold p281_j105 at hp
  refine e_iinc (ls2 := [some (.ref (86)), some (.int (a0)), none, none, some (.long (v4)), none, some (.int ((v6) + 1))]) f281_105 (by decide) rfl rfl ?_
  refine e_goto f281_108 ?_
  refine ex_weak (ls := [some (.ref (86)), some (.int (a0)), none, none, some (.long (v4)), none, some (.int ((v6) + 1))]) (le2_ok ⟨Or.inr rfl, Or.inr rfl, Or.inl rfl, Or.inl rfl, Or.inr rfl, Or.inl rfl, Or.inr rfl, trivial⟩) ?_
  exact hK34 (h) (w) (v4) ((v6) + 1) _ hp
set_option maxRecDepth 100000 in
set_option maxHeartbeats 4000000 in
theorem p281_j105_w (F : Nat) (a0 : Int32) (a1 : Int32) (a2 : Int32) (K34 : HS → Int64 → Int32 → Option (Int32 × HS)) (hK34 : ∀ (h : HS) (w : WF h) (u4 : Int64) (u6 : Int32) (r : Int32 × HS), K34 h u4 u6 = some r → WF r.2) (h : HS) (w : WF h) (v4 : Int64) (v6 : Int32) (r : Int32 × HS) (hp : p281_j105 F a0 a1 a2 K34 h v4 v6 = some r) : WF r.2 := by
  unfold p281_j105 at hp
  exact hK34 (h) (w) (v4) ((v6) + 1) _ hp
set_option maxRecDepth 100000 in
set_option maxHeartbeats 4000000 in
theorem p281_L34_ok (d : Nat) (F : Nat) (a0 : Int32) (a1 : Int32) (a2 : Int32) : ∀ (n : Nat) (h : HS) (w : WF h) (v4 : Int64) (v6 : Int32) (r : Int32 × HS), p281_L34 F a0 a1 a2 n h v4 v6 = some r → ex (d + 4) 281 (34, [some (.ref (86)), some (.int (a0)), none, none, some (.long (v4)), none, some (.int (v6))], [], h) = some (some (.int (r.1)), r.2) := by
  intro n
  induction n with
  | zero => intro h w v4 v6 r hp; cases hp
  | succ n ih =>
    intro h w v4 v6 r hp
    unfold p281_L34 at hp
    refine e_iload f281_34 rfl ?_
    refine e_aload_n f281_36 rfl ?_
    refine e_getI f281_37 (WF.t w 86 (by decide)) (by decide) ?_
    by_cases hc8 : (v6) < ((hI (h) (86) 20) : Int32)
    · rw [if_pos hc8] at hp
      refine e_icmp_ge_f f281_40 hc8 ?_
      refine e_lload f281_43 rfl ?_
      refine e_iload f281_45 rfl ?_
      refine e_lshr f281_47 ?_
      refine e_lconst (v := 1) f281_48 (by decide) ?_
      refine e_land f281_49 ?_
      refine e_lconst (v := 1) f281_50 (by decide) ?_
      refine e_lcmp f281_51 ?_
      by_cases hc9 : (lg_cmp (((v4) >>> ((v6).toInt64 &&& 63)) &&& (1)) (1)) = (0 : Int32)
      · rw [if_pos hc9] at hp
        refine e_if_ne_f f281_52 hc9 ?_
        refine e_iload f281_55 rfl ?_
        refine e_aload_n f281_57 rfl ?_
        refine e_getR f281_58 (WF.t w 86 (by decide)) rfl (WF.r (q := 141) w 86 77 (by decide)) ?_
        refine e_iload_n f281_61 rfl ?_
        by_cases hg10 : (a0) < (0 : Int32) ∨ 30 ≤ (a0).toNatClampNeg
        · rw [if_pos hg10] at hp; cases hp
        rw [if_neg hg10] at hp
        refine e_iaload f281_62 (Or.inl (WF.t w 141 (by decide))) (WF.n w 141 (by decide)) hg10 ?_
        by_cases hc11 : (v6) = ((hI (h) (141) (a0).toNatClampNeg) : Int32)
        · rw [if_pos hc11] at hp
          refine e_icmp_ne_f f281_63 hc11 ?_
          refine e_aload_n f281_66 rfl ?_
          refine e_getR f281_67 (WF.t w 86 (by decide)) rfl (WF.r (q := 137) w 86 71 (by decide)) ?_
          refine e_iconst (v := 0) f281_70 (by decide) ?_
          refine e_lconst (v := 1) f281_71 (by decide) ?_
          by_cases hg12 : (0) < (0 : Int32) ∨ 11 ≤ (0 : Int32).toNatClampNeg
          · rw [if_pos hg12] at hp; cases hp
          rw [if_neg hg12] at hp
          refine e_lastore f281_72 (WF.t w 137 (by decide)) (WF.n w 137 (by decide)) hg12 ?_
          refine e_goto f281_73 ?_
          refine ex_weak (ls := [some (.ref (86)), some (.int (a0)), none, none, some (.long (v4)), none, some (.int (v6))]) (le2_ok ⟨Or.inr rfl, Or.inr rfl, Or.inl rfl, Or.inl rfl, Or.inr rfl, Or.inl rfl, Or.inr rfl, trivial⟩) ?_
          exact p281_j105_ok d F a0 a1 a2 ((p281_L34 F a0 a1 a2 n)) (ih) (hsL (h) (137) (0 : Int32).toNatClampNeg (1)) (w) (v4) (v6) _ hp
        · rw [if_neg hc11] at hp
          refine e_icmp_ne_t f281_63 hc11 ?_
          refine e_aload_n f281_76 rfl ?_
          refine e_getR f281_77 (WF.t w 86 (by decide)) rfl (WF.r (q := 137) w 86 71 (by decide)) ?_
          refine e_iconst (v := 1) f281_80 (by decide) ?_
          refine e_dup2 f281_81 rfl rfl ?_
          by_cases hg13 : (1) < (0 : Int32) ∨ 11 ≤ (1 : Int32).toNatClampNeg
          · rw [if_pos hg13] at hp; cases hp
          rw [if_neg hg13] at hp
          refine e_laload f281_82 (WF.t w 137 (by decide)) (WF.n w 137 (by decide)) hg13 ?_
          refine e_lconst (v := 1) f281_83 (by decide) ?_
          refine e_ladd f281_84 ?_
          by_cases hg14 : (1) < (0 : Int32) ∨ 11 ≤ (1 : Int32).toNatClampNeg
          · rw [if_pos hg14] at hp; cases hp
          rw [if_neg hg14] at hp
          refine e_lastore f281_85 (WF.t w 137 (by decide)) (WF.n w 137 (by decide)) hg14 ?_
          refine e_aload_n f281_86 rfl ?_
          refine e_getR f281_87 (WF.t w 86 (by decide)) rfl (WF.r (q := 137) w 86 71 (by decide)) ?_
          refine e_iconst (v := 2) f281_90 (by decide) ?_
          refine e_dup2 f281_91 rfl rfl ?_
          by_cases hg15 : (2) < (0 : Int32) ∨ 11 ≤ (2 : Int32).toNatClampNeg
          · rw [if_pos hg15] at hp; cases hp
          rw [if_neg hg15] at hp
          refine e_laload f281_92 (WF.t w 137 (by decide)) (WF.n w 137 (by decide)) hg15 ?_
          refine e_aload_n f281_93 rfl ?_
          refine e_getR f281_94 (WF.t w 86 (by decide)) rfl (WF.r (q := 147) w 86 83 (by decide)) ?_
          refine e_iload f281_97 rfl ?_
          by_cases hg16 : (v6) < (0 : Int32) ∨ 60 ≤ (v6).toNatClampNeg
          · rw [if_pos hg16] at hp; cases hp
          rw [if_neg hg16] at hp
          refine e_baload f281_99 (Or.inr (WF.t w 147 (by decide))) (WF.n w 147 (by decide)) hg16 ?_
          obtain ⟨r17, hr18, hp⟩ := bind_some hp
          try dsimp only at hp
          refine e_callS (st := [.long (hL (hsL (h) (137) (1 : Int32).toNatClampNeg ((hL (h) (137) (1 : Int32).toNatClampNeg) + (1))) (137) (2 : Int32).toNatClampNeg), .int (2), .ref (137)]) (as := [.int (hI (hsL (h) (137) (1 : Int32).toNatClampNeg ((hL (h) (137) (1 : Int32).toNatClampNeg) + (1))) (147) (v6).toNatClampNeg)]) f281_100 (by decide) rfl rfl (Nat.le_of_ble_eq_true rfl) (Nat.le_of_ble_eq_true rfl) (p271_ok (d + 3) (hsL (h) (137) (1 : Int32).toNatClampNeg ((hL (h) (137) (1 : Int32).toNatClampNeg) + (1))) w (hI (hsL (h) (137) (1 : Int32).toNatClampNeg ((hL (h) (137) (1 : Int32).toNatClampNeg) + (1))) (147) (v6).toNatClampNeg) r17 hr18) ?_
          show ex _ 281 (103, [some (.ref (86)), some (.int (a0)), none, none, some (.long (v4)), none, some (.int (v6))], [.long (r17), .long (hL (hsL (h) (137) (1 : Int32).toNatClampNeg ((hL (h) (137) (1 : Int32).toNatClampNeg) + (1))) (137) (2 : Int32).toNatClampNeg), .int (2), .ref (137)], hsL (h) (137) (1 : Int32).toNatClampNeg ((hL (h) (137) (1 : Int32).toNatClampNeg) + (1))) = _
          refine e_ladd f281_103 ?_
          by_cases hg19 : (2) < (0 : Int32) ∨ 11 ≤ (2 : Int32).toNatClampNeg
          · rw [if_pos hg19] at hp; cases hp
          rw [if_neg hg19] at hp
          refine e_lastore f281_104 (WF.t w 137 (by decide)) (WF.n w 137 (by decide)) hg19 ?_
          obtain ⟨h20, e21, hp⟩ := bind_some hp
          try dsimp only at hp
          have e21 := Option.some.inj e21
          have w22 : WF h20 := e21 ▸ w
          rw [e21]
          refine ex_weak (ls := [some (.ref (86)), some (.int (a0)), none, none, some (.long (v4)), none, some (.int (v6))]) (le2_ok ⟨Or.inr rfl, Or.inr rfl, Or.inl rfl, Or.inl rfl, Or.inr rfl, Or.inl rfl, Or.inr rfl, trivial⟩) ?_
          exact p281_j105_ok d F a0 a1 a2 ((p281_L34 F a0 a1 a2 n)) (ih) (h20) (w22) (v4) (v6) _ hp
      · rw [if_neg hc9] at hp
        refine e_if_ne_t f281_52 hc9 ?_
        refine ex_weak (ls := [some (.ref (86)), some (.int (a0)), none, none, some (.long (v4)), none, some (.int (v6))]) (le2_ok ⟨Or.inr rfl, Or.inr rfl, Or.inl rfl, Or.inl rfl, Or.inr rfl, Or.inl rfl, Or.inr rfl, trivial⟩) ?_
        exact p281_j105_ok d F a0 a1 a2 ((p281_L34 F a0 a1 a2 n)) (ih) (h) (w) (v4) (v6) _ hp
    · rw [if_neg hc8] at hp
      refine e_icmp_ge_t f281_40 hc8 ?_
      refine e_aload_n f281_111 rfl ?_
      refine e_aload_n f281_112 rfl ?_
      refine e_aload_n f281_113 rfl ?_
      refine e_getI f281_114 (WF.t w 86 (by decide)) (by decide) ?_
      obtain ⟨r23, hr24, hp⟩ := bind_some hp
      try dsimp only at hp
      refine e_callV (st := [.ref (86)]) (o := 86) (as := [.int (hI (h) (86) 1)]) f281_117 (by decide) rfl rfl (Nat.le_of_ble_eq_true rfl) (WF.t w 86 (by decide)) (Nat.le_of_ble_eq_true rfl) (p268_ok (d + 3) F (h) w (hI (h) (86) 1) r23 hr24) ?_
      show ex _ 281 (120, [some (.ref (86)), some (.int (a0)), none, none, some (.long (v4)), none, some (.int (v6))], [.int (r23), .ref (86)], h) = _
      refine e_iconst (v := 0) f281_120 (by decide) ?_
      obtain ⟨r25, hr26, hp⟩ := bind_some hp
      try dsimp only at hp
      refine e_callV (st := []) (o := 86) (as := [.int (r23), .int (0)]) f281_121 (by decide) rfl rfl (Nat.le_of_ble_eq_true rfl) (WF.t w 86 (by decide)) (Nat.le_of_ble_eq_true rfl) (p274_ok d F (h) w (r23) (0) r25 hr26) ?_
      show ex _ 281 (124, [some (.ref (86)), some (.int (a0)), none, none, some (.long (v4)), none, some (.int (v6))], [.int (r25.1)], r25.2) = _
      have hp := Option.some.inj hp
      subst hp
      exact e_ireturn f281_124 (Or.inl rfl)
set_option maxRecDepth 100000 in
set_option maxHeartbeats 4000000 in
theorem p281_L34_w (F : Nat) (a0 : Int32) (a1 : Int32) (a2 : Int32) : ∀ (n : Nat) (h : HS) (w : WF h) (v4 : Int64) (v6 : Int32) (r : Int32 × HS), p281_L34 F a0 a1 a2 n h v4 v6 = some r → WF r.2 := by
  intro n
  induction n with
  | zero => intro h w v4 v6 r hp; cases hp
  | succ n ih =>
    intro h w v4 v6 r hp
    unfold p281_L34 at hp
    by_cases hc8 : (v6) < ((hI (h) (86) 20) : Int32)
    · rw [if_pos hc8] at hp
      by_cases hc9 : (lg_cmp (((v4) >>> ((v6).toInt64 &&& 63)) &&& (1)) (1)) = (0 : Int32)
      · rw [if_pos hc9] at hp
        by_cases hg10 : (a0) < (0 : Int32) ∨ 30 ≤ (a0).toNatClampNeg
        · rw [if_pos hg10] at hp; cases hp
        rw [if_neg hg10] at hp
        by_cases hc11 : (v6) = ((hI (h) (141) (a0).toNatClampNeg) : Int32)
        · rw [if_pos hc11] at hp
          by_cases hg12 : (0) < (0 : Int32) ∨ 11 ≤ (0 : Int32).toNatClampNeg
          · rw [if_pos hg12] at hp; cases hp
          rw [if_neg hg12] at hp
          exact p281_j105_w F a0 a1 a2 ((p281_L34 F a0 a1 a2 n)) (ih) (hsL (h) (137) (0 : Int32).toNatClampNeg (1)) (w) (v4) (v6) _ hp
        · rw [if_neg hc11] at hp
          by_cases hg13 : (1) < (0 : Int32) ∨ 11 ≤ (1 : Int32).toNatClampNeg
          · rw [if_pos hg13] at hp; cases hp
          rw [if_neg hg13] at hp
          by_cases hg14 : (1) < (0 : Int32) ∨ 11 ≤ (1 : Int32).toNatClampNeg
          · rw [if_pos hg14] at hp; cases hp
          rw [if_neg hg14] at hp
          by_cases hg15 : (2) < (0 : Int32) ∨ 11 ≤ (2 : Int32).toNatClampNeg
          · rw [if_pos hg15] at hp; cases hp
          rw [if_neg hg15] at hp
          by_cases hg16 : (v6) < (0 : Int32) ∨ 60 ≤ (v6).toNatClampNeg
          · rw [if_pos hg16] at hp; cases hp
          rw [if_neg hg16] at hp
          obtain ⟨r17, hr18, hp⟩ := bind_some hp
          try dsimp only at hp
          by_cases hg19 : (2) < (0 : Int32) ∨ 11 ≤ (2 : Int32).toNatClampNeg
          · rw [if_pos hg19] at hp; cases hp
          rw [if_neg hg19] at hp
          obtain ⟨h20, e21, hp⟩ := bind_some hp
          try dsimp only at hp
          have e21 := Option.some.inj e21
          have w22 : WF h20 := e21 ▸ w
          exact p281_j105_w F a0 a1 a2 ((p281_L34 F a0 a1 a2 n)) (ih) (h20) (w22) (v4) (v6) _ hp
      · rw [if_neg hc9] at hp
        exact p281_j105_w F a0 a1 a2 ((p281_L34 F a0 a1 a2 n)) (ih) (h) (w) (v4) (v6) _ hp
    · rw [if_neg hc8] at hp
      obtain ⟨r23, hr24, hp⟩ := bind_some hp
      try dsimp only at hp
      obtain ⟨r25, hr26, hp⟩ := bind_some hp
      try dsimp only at hp
      have hp := Option.some.inj hp
      subst hp
      exact ((p274_w F (h) w (r23) (0)  r25 hr26))
set_option maxRecDepth 100000 in
set_option maxHeartbeats 4000000 in
theorem p281_ok (d : Nat) (F : Nat) (h : HS) (w : WF h) (a0 : Int32) (a1 : Int32) (a2 : Int32) (r : Int32 × HS) (hp : p281 F h a0 a1 a2 = some r) : ex (d + 4) 281 (ent 281 [.ref (86), .int (a0), .int (a1), .int (a2)] h) = some (some (.int (r.1)), r.2) := by
  rw [show ent 281 [.ref (86), .int (a0), .int (a1), .int (a2)] h = (0, [some (.ref (86)), some (.int (a0)), some (.int (a1)), some (.int (a2)), none, none, none], [], h) from by  rfl]
  refine ex_weak (ls := [some (.ref (86)), some (.int (a0)), some (.int (a1)), some (.int (a2)), none, none, none]) (le2_ok ⟨Or.inr rfl, Or.inr rfl, Or.inr rfl, Or.inr rfl, Or.inr rfl, Or.inr rfl, Or.inr rfl, trivial⟩) ?_
  unfold p281 at hp
  refine e_aload_n f281_0 rfl ?_
  refine e_aload_n f281_1 rfl ?_
  refine e_getI f281_2 (WF.t w 86 (by decide)) (by decide) ?_
  obtain ⟨r1, hr2, hp⟩ := bind_some hp
  try dsimp only at hp
  refine e_callV (st := []) (o := 86) (as := [.int (hI (h) (86) 1)]) f281_5 (by decide) rfl rfl (Nat.le_of_ble_eq_true rfl) (WF.t w 86 (by decide)) (Nat.le_of_ble_eq_true rfl) (p270_ok (d + 3) F (h) w (hI (h) (86) 1) r1 hr2) ?_
  show ex _ 281 (8, [some (.ref (86)), some (.int (a0)), some (.int (a1)), some (.int (a2)), none, none, none], [], r1) = _
  refine e_aload_n f281_8 rfl ?_
  refine e_iload_n f281_9 rfl ?_
  obtain ⟨r3, hr4, hp⟩ := bind_some hp
  try dsimp only at hp
  refine e_callV (st := []) (o := 86) (as := [.int (a0)]) f281_10 (by decide) rfl rfl (Nat.le_of_ble_eq_true rfl) (WF.t (p270_w F (h) w (hI (h) (86) 1)  r1 hr2) 86 (by decide)) (Nat.le_of_ble_eq_true rfl) (p279_ok (d + 2) (r1) (p270_w F (h) w (hI (h) (86) 1)  r1 hr2) (a0) r3 hr4) ?_
  show ex _ 281 (13, [some (.ref (86)), some (.int (a0)), some (.int (a1)), some (.int (a2)), none, none, none], [], r3) = _
  refine e_aload_n f281_13 rfl ?_
  refine e_iload_n f281_14 rfl ?_
  obtain ⟨r5, hr6, hp⟩ := bind_some hp
  try dsimp only at hp
  refine e_callV (st := []) (o := 86) (as := [.int (a1)]) f281_15 (by decide) rfl rfl (Nat.le_of_ble_eq_true rfl) (WF.t (p279_w (r1) (p270_w F (h) w (hI (h) (86) 1)  r1 hr2) (a0)  r3 hr4) 86 (by decide)) (Nat.le_of_ble_eq_true rfl) (p280_ok (d + 3) (r3) (p279_w (r1) (p270_w F (h) w (hI (h) (86) 1)  r1 hr2) (a0)  r3 hr4) (a1) r5 hr6) ?_
  show ex _ 281 (18, [some (.ref (86)), some (.int (a0)), some (.int (a1)), some (.int (a2)), none, none, none], [], r5) = _
  refine e_aload_n f281_18 rfl ?_
  refine e_getR f281_19 (WF.t (p280_w (r3) (p279_w (r1) (p270_w F (h) w (hI (h) (86) 1)  r1 hr2) (a0)  r3 hr4) (a1)  r5 hr6) 86 (by decide)) rfl (WF.r (q := 138) (p280_w (r3) (p279_w (r1) (p270_w F (h) w (hI (h) (86) 1)  r1 hr2) (a0)  r3 hr4) (a1)  r5 hr6) 86 74 (by decide)) ?_
  refine e_bipush (v := 20) f281_22 (by decide) ?_
  refine e_iload_n f281_24 rfl ?_
  refine e_imul f281_25 ?_
  refine e_iload_n f281_26 rfl ?_
  refine e_iadd f281_27 ?_
  by_cases hg7 : (((20) * (a1)) + (a2)) < (0 : Int32) ∨ 4000 ≤ (((20) * (a1)) + (a2)).toNatClampNeg
  · rw [if_pos hg7] at hp; cases hp
  rw [if_neg hg7] at hp
  refine e_laload f281_28 (WF.t (p280_w (r3) (p279_w (r1) (p270_w F (h) w (hI (h) (86) 1)  r1 hr2) (a0)  r3 hr4) (a1)  r5 hr6) 138 (by decide)) (WF.n (p280_w (r3) (p279_w (r1) (p270_w F (h) w (hI (h) (86) 1)  r1 hr2) (a0)  r3 hr4) (a1)  r5 hr6) 138 (by decide)) hg7 ?_
  refine e_lstore (ls2 := [some (.ref (86)), some (.int (a0)), some (.int (a1)), some (.int (a2)), some (.long (hL (r5) (138) (((20) * (a1)) + (a2)).toNatClampNeg)), none, none]) f281_29 (Nat.le_of_ble_eq_true rfl) rfl ?_
  refine e_iconst (v := 0) f281_31 (by decide) ?_
  refine e_istore (ls2 := [some (.ref (86)), some (.int (a0)), some (.int (a1)), some (.int (a2)), some (.long (hL (r5) (138) (((20) * (a1)) + (a2)).toNatClampNeg)), none, some (.int (0))]) f281_32 (Nat.le_of_ble_eq_true rfl) rfl ?_
  refine ex_weak (ls := [some (.ref (86)), some (.int (a0)), none, none, some (.long (hL (r5) (138) (((20) * (a1)) + (a2)).toNatClampNeg)), none, some (.int (0))]) (le2_ok ⟨Or.inr rfl, Or.inr rfl, Or.inl rfl, Or.inl rfl, Or.inr rfl, Or.inl rfl, Or.inr rfl, trivial⟩) ?_
  exact p281_L34_ok d F a0 a1 a2 F (r5) ((p280_w (r3) (p279_w (r1) (p270_w F (h) w (hI (h) (86) 1)  r1 hr2) (a0)  r3 hr4) (a1)  r5 hr6)) (hL (r5) (138) (((20) * (a1)) + (a2)).toNatClampNeg) (0) _ hp
set_option maxRecDepth 100000 in
set_option maxHeartbeats 4000000 in
theorem p281_w (F : Nat) (h : HS) (w : WF h) (a0 : Int32) (a1 : Int32) (a2 : Int32) (r : Int32 × HS) (hp : p281 F h a0 a1 a2 = some r) : WF r.2 := by
  unfold p281 at hp
  obtain ⟨r1, hr2, hp⟩ := bind_some hp
  try dsimp only at hp
  obtain ⟨r3, hr4, hp⟩ := bind_some hp
  try dsimp only at hp
  obtain ⟨r5, hr6, hp⟩ := bind_some hp
  try dsimp only at hp
  by_cases hg7 : (((20) * (a1)) + (a2)) < (0 : Int32) ∨ 4000 ≤ (((20) * (a1)) + (a2)).toNatClampNeg
  · rw [if_pos hg7] at hp; cases hp
  rw [if_neg hg7] at hp
  exact p281_L34_w F a0 a1 a2 F (r5) ((p280_w (r3) (p279_w (r1) (p270_w F (h) w (hI (h) (86) 1)  r1 hr2) (a0)  r3 hr4) (a1)  r5 hr6)) (hL (r5) (138) (((20) * (a1)) + (a2)).toNatClampNeg) (0) _ hp
theorem f282_0 : fetch 282 0 = some (.aload_n 0, 0, 0, 0) := rfl
theorem f282_1 : fetch 282 1 = some (.iload_n 1, 0, 0, 0) := rfl
theorem f282_2 : fetch 282 2 = some (.invokevirtual 291, 205, 1, 0) := rfl
theorem f282_5 : fetch 282 5 = some (.ifCond .eq 23, 28, 0, 0) := rfl
theorem f282_8 : fetch 282 8 = some (.iload_n 2, 0, 0, 0) := rfl
theorem f282_9 : fetch 282 9 = some (.iconst 0, 0, 0, 0) := rfl
theorem f282_10 : fetch 282 10 = some (.aload_n 0, 0, 0, 0) := rfl
theorem f282_11 : fetch 282 11 = some (.getfield 46, 12, 19, 2) := rfl
theorem f282_14 : fetch 282 14 = some (.iload_n 1, 0, 0, 0) := rfl
theorem f282_15 : fetch 282 15 = some (.iaload, 0, 0, 0) := rfl
theorem f282_16 : fetch 282 16 = some (.iconst 1, 0, 0, 0) := rfl
theorem f282_17 : fetch 282 17 = some (.isub, 0, 0, 0) := rfl
theorem f282_18 : fetch 282 18 = some (.invokestatic 240, 187, 3, 1) := rfl
theorem f282_21 : fetch 282 21 = some (.ifCond .eq 7, 28, 0, 0) := rfl
theorem f282_24 : fetch 282 24 = some (.iconst 1, 0, 0, 0) := rfl
theorem f282_25 : fetch 282 25 = some (.goto 4, 29, 0, 0) := rfl
theorem f282_28 : fetch 282 28 = some (.iconst 0, 0, 0, 0) := rfl
theorem f282_29 : fetch 282 29 = some (.ireturn, 0, 0, 1) := rfl
set_option maxRecDepth 100000 in
set_option maxHeartbeats 4000000 in
theorem p282_ok (d : Nat) (h : HS) (w : WF h) (a0 : Int32) (a1 : Int32) (r : Int32) (hp : p282 h a0 a1 = some r) : ex (d + 2) 282 (ent 282 [.ref (86), .int (a0), .int (a1)] h) = some (some (.int (r)), h) := by
  rw [show ent 282 [.ref (86), .int (a0), .int (a1)] h = (0, [some (.ref (86)), some (.int (a0)), some (.int (a1))], [], h) from by  rfl]
  refine ex_weak (ls := [some (.ref (86)), some (.int (a0)), some (.int (a1))]) (le2_ok ⟨Or.inr rfl, Or.inr rfl, Or.inr rfl, trivial⟩) ?_
  unfold p282 at hp
  refine e_aload_n f282_0 rfl ?_
  refine e_iload_n f282_1 rfl ?_
  obtain ⟨r1, hr2, hp⟩ := bind_some hp
  try dsimp only at hp
  refine e_callV (st := []) (o := 86) (as := [.int (a0)]) f282_2 (by decide) rfl rfl (Nat.le_of_ble_eq_true rfl) (WF.t w 86 (by decide)) (Nat.le_of_ble_eq_true rfl) (p205_ok d (h) w (a0) r1 hr2) ?_
  show ex _ 282 (5, [some (.ref (86)), some (.int (a0)), some (.int (a1))], [.int (r1)], h) = _
  by_cases hc3 : (r1) = (0 : Int32)
  · rw [if_pos hc3] at hp
    refine e_if_eq_t f282_5 hc3 ?_
    refine e_iconst (v := 0) f282_28 (by decide) ?_
    have hp := Option.some.inj hp
    subst hp
    exact e_ireturn f282_29 (by decide)
  · rw [if_neg hc3] at hp
    refine e_if_eq_f f282_5 hc3 ?_
    refine e_iload_n f282_8 rfl ?_
    refine e_iconst (v := 0) f282_9 (by decide) ?_
    refine e_aload_n f282_10 rfl ?_
    refine e_getR f282_11 (WF.t w 86 (by decide)) rfl (WF.r (q := 99) w 86 19 (by decide)) ?_
    refine e_iload_n f282_14 rfl ?_
    by_cases hg4 : (a0) < (0 : Int32) ∨ 200 ≤ (a0).toNatClampNeg
    · rw [if_pos hg4] at hp; cases hp
    rw [if_neg hg4] at hp
    refine e_iaload f282_15 (Or.inl (WF.t w 99 (by decide))) (WF.n w 99 (by decide)) hg4 ?_
    refine e_iconst (v := 1) f282_16 (by decide) ?_
    refine e_isub f282_17 ?_
    obtain ⟨r5, hr6, hp⟩ := bind_some hp
    try dsimp only at hp
    refine e_callS (st := []) (as := [.int (a1), .int (0), .int ((hI (h) (99) (a0).toNatClampNeg) - (1))]) f282_18 (by decide) rfl rfl (Nat.le_of_ble_eq_true rfl) (Nat.le_of_ble_eq_true rfl) (p187_ok (d + 1) (h) w (a1) (0) ((hI (h) (99) (a0).toNatClampNeg) - (1)) r5 hr6) ?_
    show ex _ 282 (21, [some (.ref (86)), some (.int (a0)), some (.int (a1))], [.int (r5)], h) = _
    by_cases hc7 : (r5) = (0 : Int32)
    · rw [if_pos hc7] at hp
      refine e_if_eq_t f282_21 hc7 ?_
      refine e_iconst (v := 0) f282_28 (by decide) ?_
      have hp := Option.some.inj hp
      subst hp
      exact e_ireturn f282_29 (by decide)
    · rw [if_neg hc7] at hp
      refine e_if_eq_f f282_21 hc7 ?_
      refine e_iconst (v := 1) f282_24 (by decide) ?_
      refine e_goto f282_25 ?_
      have hp := Option.some.inj hp
      subst hp
      exact e_ireturn f282_29 (by decide)
theorem f283_0 : fetch 283 0 = some (.aload_n 0, 0, 0, 0) := rfl
theorem f283_1 : fetch 283 1 = some (.iload_n 1, 0, 0, 0) := rfl
theorem f283_2 : fetch 283 2 = some (.invokevirtual 560, 277, 1, 0) := rfl
theorem f283_5 : fetch 283 5 = some (.ifCond .eq 20, 25, 0, 0) := rfl
theorem f283_8 : fetch 283 8 = some (.aload_n 0, 0, 0, 0) := rfl
theorem f283_9 : fetch 283 9 = some (.iload_n 2, 0, 0, 0) := rfl
theorem f283_10 : fetch 283 10 = some (.invokevirtual 301, 206, 1, 0) := rfl
theorem f283_13 : fetch 283 13 = some (.ifCond .eq 12, 25, 0, 0) := rfl
theorem f283_16 : fetch 283 16 = some (.aload_n 0, 0, 0, 0) := rfl
theorem f283_17 : fetch 283 17 = some (.iload_n 2, 0, 0, 0) := rfl
theorem f283_18 : fetch 283 18 = some (.iload_n 3, 0, 0, 0) := rfl
theorem f283_19 : fetch 283 19 = some (.invokevirtual 563, 282, 2, 0) := rfl
theorem f283_22 : fetch 283 22 = some (.ifCond .ne 5, 27, 0, 0) := rfl
theorem f283_25 : fetch 283 25 = some (.iconst (-1), 0, 0, 0) := rfl
theorem f283_26 : fetch 283 26 = some (.ireturn, 0, 0, 0) := rfl
theorem f283_27 : fetch 283 27 = some (.aload_n 0, 0, 0, 0) := rfl
theorem f283_28 : fetch 283 28 = some (.invokevirtual 566, 278, 0, 0) := rfl
theorem f283_31 : fetch 283 31 = some (.aload_n 0, 0, 0, 0) := rfl
theorem f283_32 : fetch 283 32 = some (.iload_n 1, 0, 0, 0) := rfl
theorem f283_33 : fetch 283 33 = some (.iload_n 2, 0, 0, 0) := rfl
theorem f283_34 : fetch 283 34 = some (.iload_n 3, 0, 0, 0) := rfl
theorem f283_35 : fetch 283 35 = some (.invokevirtual 569, 281, 3, 0) := rfl
theorem f283_38 : fetch 283 38 = some (.istore 4, 0, 0, 0) := rfl
theorem f283_40 : fetch 283 40 = some (.aload_n 0, 0, 0, 0) := rfl
theorem f283_41 : fetch 283 41 = some (.iload 4, 0, 0, 0) := rfl
theorem f283_43 : fetch 283 43 = some (.iconst (-1), 0, 0, 0) := rfl
theorem f283_44 : fetch 283 44 = some (.if_icmp .ne 7, 51, 0, 0) := rfl
theorem f283_47 : fetch 283 47 = some (.iconst (-1), 0, 0, 0) := rfl
theorem f283_48 : fetch 283 48 = some (.goto 8, 56, 0, 0) := rfl
theorem f283_51 : fetch 283 51 = some (.iload 4, 0, 0, 0) := rfl
theorem f283_53 : fetch 283 53 = some (.bipush 12, 0, 0, 0) := rfl
theorem f283_55 : fetch 283 55 = some (.irem, 0, 0, 0) := rfl
theorem f283_56 : fetch 283 56 = some (.putfield 166, 12, 73, 0) := rfl
theorem f283_59 : fetch 283 59 = some (.iload 4, 0, 0, 0) := rfl
theorem f283_61 : fetch 283 61 = some (.iconst (-1), 0, 0, 0) := rfl
theorem f283_62 : fetch 283 62 = some (.if_icmp .ne 7, 69, 0, 0) := rfl
theorem f283_65 : fetch 283 65 = some (.iconst 2, 0, 0, 0) := rfl
theorem f283_66 : fetch 283 66 = some (.goto 10, 76, 0, 0) := rfl
theorem f283_69 : fetch 283 69 = some (.aload_n 0, 0, 0, 0) := rfl
theorem f283_70 : fetch 283 70 = some (.getfield 141, 12, 62, 2) := rfl
theorem f283_73 : fetch 283 73 = some (.iload 4, 0, 0, 0) := rfl
theorem f283_75 : fetch 283 75 = some (.iaload, 0, 0, 0) := rfl
theorem f283_76 : fetch 283 76 = some (.ireturn, 0, 0, 0) := rfl
set_option maxRecDepth 100000 in
set_option maxHeartbeats 4000000 in
theorem p283_j56_ok (d : Nat) (F : Nat) (a0 : Int32) (a1 : Int32) (a2 : Int32) (h : HS) (w : WF h) (v4 : Int32) (s0 : Int32) (r : Int32 × HS) (hp : p283_j56 F a0 a1 a2 h v4 s0 = some r) : ex (d + 8) 283 (56, [some (.ref (86)), none, none, none, some (.int (v4))], [.int (s0), .ref (86)], h) = some (some (.int (r.1)), r.2) := by
  unfold p283_j56 at hp
  refine e_putI f283_56 (WF.t w 86 (by decide)) rfl ?_
  refine e_iload f283_59 rfl ?_
  refine e_iconst (v := -1) f283_61 (by decide) ?_
  by_cases hc16 : (v4) = (((-1)) : Int32)
  · rw [if_pos hc16] at hp
    refine e_icmp_ne_f f283_62 hc16 ?_
    refine e_iconst (v := 2) f283_65 (by decide) ?_
    refine e_goto f283_66 ?_
    have hp := Option.some.inj hp
    subst hp
    exact e_ireturn f283_76 (Or.inl rfl)
  · rw [if_neg hc16] at hp
    refine e_icmp_ne_t f283_62 hc16 ?_
    refine e_aload_n f283_69 rfl ?_
    refine e_getR f283_70 (WF.t w 86 (by decide)) rfl (WF.r (q := 130) w 86 62 (by decide)) ?_
    refine e_iload f283_73 rfl ?_
    by_cases hg17 : (v4) < (0 : Int32) ∨ 240 ≤ (v4).toNatClampNeg
    · rw [if_pos hg17] at hp; cases hp
    rw [if_neg hg17] at hp
    refine e_iaload f283_75 (Or.inl (WF.t w 130 (by decide))) (WF.n w 130 (by decide)) hg17 ?_
    have hp := Option.some.inj hp
    subst hp
    exact e_ireturn f283_76 (Or.inl rfl)
set_option maxRecDepth 100000 in
set_option maxHeartbeats 4000000 in
theorem p283_j56_w (F : Nat) (a0 : Int32) (a1 : Int32) (a2 : Int32) (h : HS) (w : WF h) (v4 : Int32) (s0 : Int32) (r : Int32 × HS) (hp : p283_j56 F a0 a1 a2 h v4 s0 = some r) : WF r.2 := by
  unfold p283_j56 at hp
  by_cases hc16 : (v4) = (((-1)) : Int32)
  · rw [if_pos hc16] at hp
    have hp := Option.some.inj hp
    subst hp
    exact (w)
  · rw [if_neg hc16] at hp
    by_cases hg17 : (v4) < (0 : Int32) ∨ 240 ≤ (v4).toNatClampNeg
    · rw [if_pos hg17] at hp; cases hp
    rw [if_neg hg17] at hp
    have hp := Option.some.inj hp
    subst hp
    exact (w)
set_option maxRecDepth 100000 in
set_option maxHeartbeats 4000000 in
theorem p283_ok (d : Nat) (F : Nat) (h : HS) (w : WF h) (a0 : Int32) (a1 : Int32) (a2 : Int32) (r : Int32 × HS) (hp : p283 F h a0 a1 a2 = some r) : ex (d + 8) 283 (ent 283 [.ref (86), .int (a0), .int (a1), .int (a2)] h) = some (some (.int (r.1)), r.2) := by
  rw [show ent 283 [.ref (86), .int (a0), .int (a1), .int (a2)] h = (0, [some (.ref (86)), some (.int (a0)), some (.int (a1)), some (.int (a2)), none], [], h) from by  rfl]
  refine ex_weak (ls := [some (.ref (86)), some (.int (a0)), some (.int (a1)), some (.int (a2)), none]) (le2_ok ⟨Or.inr rfl, Or.inr rfl, Or.inr rfl, Or.inr rfl, Or.inr rfl, trivial⟩) ?_
  unfold p283 at hp
  refine e_aload_n f283_0 rfl ?_
  refine e_iload_n f283_1 rfl ?_
  obtain ⟨r1, hr2, hp⟩ := bind_some hp
  try dsimp only at hp
  refine e_callV (st := []) (o := 86) (as := [.int (a0)]) f283_2 (by decide) rfl rfl (Nat.le_of_ble_eq_true rfl) (WF.t w 86 (by decide)) (Nat.le_of_ble_eq_true rfl) (p277_ok (d + 6) (h) w (a0) r1 hr2) ?_
  show ex _ 283 (5, [some (.ref (86)), some (.int (a0)), some (.int (a1)), some (.int (a2)), none], [.int (r1)], h) = _
  by_cases hc3 : (r1) = (0 : Int32)
  · rw [if_pos hc3] at hp
    refine e_if_eq_t f283_5 hc3 ?_
    refine e_iconst (v := -1) f283_25 (by decide) ?_
    have hp := Option.some.inj hp
    subst hp
    exact e_ireturn f283_26 (Or.inl rfl)
  · rw [if_neg hc3] at hp
    refine e_if_eq_f f283_5 hc3 ?_
    refine e_aload_n f283_8 rfl ?_
    refine e_iload_n f283_9 rfl ?_
    obtain ⟨r4, hr5, hp⟩ := bind_some hp
    try dsimp only at hp
    refine e_callV (st := []) (o := 86) (as := [.int (a1)]) f283_10 (by decide) rfl rfl (Nat.le_of_ble_eq_true rfl) (WF.t w 86 (by decide)) (Nat.le_of_ble_eq_true rfl) (p206_ok (d + 5) (h) w (a1) r4 hr5) ?_
    show ex _ 283 (13, [some (.ref (86)), some (.int (a0)), some (.int (a1)), some (.int (a2)), none], [.int (r4)], h) = _
    by_cases hc6 : (r4) = (0 : Int32)
    · rw [if_pos hc6] at hp
      refine e_if_eq_t f283_13 hc6 ?_
      refine e_iconst (v := -1) f283_25 (by decide) ?_
      have hp := Option.some.inj hp
      subst hp
      exact e_ireturn f283_26 (Or.inl rfl)
    · rw [if_neg hc6] at hp
      refine e_if_eq_f f283_13 hc6 ?_
      refine e_aload_n f283_16 rfl ?_
      refine e_iload_n f283_17 rfl ?_
      refine e_iload_n f283_18 rfl ?_
      obtain ⟨r7, hr8, hp⟩ := bind_some hp
      try dsimp only at hp
      refine e_callV (st := []) (o := 86) (as := [.int (a1), .int (a2)]) f283_19 (by decide) rfl rfl (Nat.le_of_ble_eq_true rfl) (WF.t w 86 (by decide)) (Nat.le_of_ble_eq_true rfl) (p282_ok (d + 5) (h) w (a1) (a2) r7 hr8) ?_
      show ex _ 283 (22, [some (.ref (86)), some (.int (a0)), some (.int (a1)), some (.int (a2)), none], [.int (r7)], h) = _
      by_cases hc9 : (r7) = (0 : Int32)
      · rw [if_pos hc9] at hp
        refine e_if_ne_f f283_22 hc9 ?_
        refine e_iconst (v := -1) f283_25 (by decide) ?_
        have hp := Option.some.inj hp
        subst hp
        exact e_ireturn f283_26 (Or.inl rfl)
      · rw [if_neg hc9] at hp
        refine e_if_ne_t f283_22 hc9 ?_
        refine e_aload_n f283_27 rfl ?_
        obtain ⟨r10, hr11, hp⟩ := bind_some hp
        try dsimp only at hp
        refine e_callV (st := []) (o := 86) (as := []) f283_28 (by decide) rfl rfl (Nat.le_of_ble_eq_true rfl) (WF.t w 86 (by decide)) (Nat.le_of_ble_eq_true rfl) (p278_ok d F (h) w r10 hr11) ?_
        show ex _ 283 (31, [some (.ref (86)), some (.int (a0)), some (.int (a1)), some (.int (a2)), none], [], r10) = _
        refine e_aload_n f283_31 rfl ?_
        refine e_iload_n f283_32 rfl ?_
        refine e_iload_n f283_33 rfl ?_
        refine e_iload_n f283_34 rfl ?_
        obtain ⟨r12, hr13, hp⟩ := bind_some hp
        try dsimp only at hp
        refine e_callV (st := []) (o := 86) (as := [.int (a0), .int (a1), .int (a2)]) f283_35 (by decide) rfl rfl (Nat.le_of_ble_eq_true rfl) (WF.t (p278_w F (h) w  r10 hr11) 86 (by decide)) (Nat.le_of_ble_eq_true rfl) (p281_ok (d + 3) F (r10) (p278_w F (h) w  r10 hr11) (a0) (a1) (a2) r12 hr13) ?_
        show ex _ 283 (38, [some (.ref (86)), some (.int (a0)), some (.int (a1)), some (.int (a2)), none], [.int (r12.1)], r12.2) = _
        refine e_istore (ls2 := [some (.ref (86)), some (.int (a0)), some (.int (a1)), some (.int (a2)), some (.int (r12.1))]) f283_38 (Nat.le_of_ble_eq_true rfl) rfl ?_
        refine e_aload_n f283_40 rfl ?_
        refine e_iload f283_41 rfl ?_
        refine e_iconst (v := -1) f283_43 (by decide) ?_
        by_cases hc14 : (r12.1) = (((-1)) : Int32)
        · rw [if_pos hc14] at hp
          refine e_icmp_ne_f f283_44 hc14 ?_
          refine e_iconst (v := -1) f283_47 (by decide) ?_
          refine e_goto f283_48 ?_
          refine ex_weak (ls := [some (.ref (86)), none, none, none, some (.int (r12.1))]) (le2_ok ⟨Or.inr rfl, Or.inl rfl, Or.inl rfl, Or.inl rfl, Or.inr rfl, trivial⟩) ?_
          exact p283_j56_ok d F a0 a1 a2 (r12.2) ((p281_w F (r10) (p278_w F (h) w  r10 hr11) (a0) (a1) (a2)  r12 hr13)) (r12.1) ((-1)) _ hp
        · rw [if_neg hc14] at hp
          refine e_icmp_ne_t f283_44 hc14 ?_
          refine e_iload f283_51 rfl ?_
          refine e_bipush (v := 12) f283_53 (by decide) ?_
          by_cases hg15 : (12) = (0 : Int32)
          · rw [if_pos hg15] at hp; cases hp
          rw [if_neg hg15] at hp
          refine e_irem f283_55 hg15 ?_
          refine ex_weak (ls := [some (.ref (86)), none, none, none, some (.int (r12.1))]) (le2_ok ⟨Or.inr rfl, Or.inl rfl, Or.inl rfl, Or.inl rfl, Or.inr rfl, trivial⟩) ?_
          exact p283_j56_ok d F a0 a1 a2 (r12.2) ((p281_w F (r10) (p278_w F (h) w  r10 hr11) (a0) (a1) (a2)  r12 hr13)) (r12.1) ((r12.1) - (r12.1) / (12) * (12)) _ hp
set_option maxRecDepth 100000 in
set_option maxHeartbeats 4000000 in
theorem p283_w (F : Nat) (h : HS) (w : WF h) (a0 : Int32) (a1 : Int32) (a2 : Int32) (r : Int32 × HS) (hp : p283 F h a0 a1 a2 = some r) : WF r.2 := by
  unfold p283 at hp
  obtain ⟨r1, hr2, hp⟩ := bind_some hp
  try dsimp only at hp
  by_cases hc3 : (r1) = (0 : Int32)
  · rw [if_pos hc3] at hp
    have hp := Option.some.inj hp
    subst hp
    exact (w)
  · rw [if_neg hc3] at hp
    obtain ⟨r4, hr5, hp⟩ := bind_some hp
    try dsimp only at hp
    by_cases hc6 : (r4) = (0 : Int32)
    · rw [if_pos hc6] at hp
      have hp := Option.some.inj hp
      subst hp
      exact (w)
    · rw [if_neg hc6] at hp
      obtain ⟨r7, hr8, hp⟩ := bind_some hp
      try dsimp only at hp
      by_cases hc9 : (r7) = (0 : Int32)
      · rw [if_pos hc9] at hp
        have hp := Option.some.inj hp
        subst hp
        exact (w)
      · rw [if_neg hc9] at hp
        obtain ⟨r10, hr11, hp⟩ := bind_some hp
        try dsimp only at hp
        obtain ⟨r12, hr13, hp⟩ := bind_some hp
        try dsimp only at hp
        by_cases hc14 : (r12.1) = (((-1)) : Int32)
        · rw [if_pos hc14] at hp
          exact p283_j56_w F a0 a1 a2 (r12.2) ((p281_w F (r10) (p278_w F (h) w  r10 hr11) (a0) (a1) (a2)  r12 hr13)) (r12.1) ((-1)) _ hp
        · rw [if_neg hc14] at hp
          by_cases hg15 : (12) = (0 : Int32)
          · rw [if_pos hg15] at hp; cases hp
          rw [if_neg hg15] at hp
          exact p283_j56_w F a0 a1 a2 (r12.2) ((p281_w F (r10) (p278_w F (h) w  r10 hr11) (a0) (a1) (a2)  r12 hr13)) (r12.1) ((r12.1) - (r12.1) / (12) * (12)) _ hp
theorem f284_0 : fetch 284 0 = some (.aload_n 0, 0, 0, 0) := rfl
theorem f284_1 : fetch 284 1 = some (.getfield 166, 12, 73, 0) := rfl
theorem f284_4 : fetch 284 4 = some (.ireturn, 0, 0, 0) := rfl
set_option maxRecDepth 100000 in
set_option maxHeartbeats 4000000 in
theorem p284_ok (d : Nat) (h : HS) (w : WF h) (r : Int32) (hp : p284 h = some r) : ex (d + 0) 284 (ent 284 [.ref (86)] h) = some (some (.int (r)), h) := by
  rw [show ent 284 [.ref (86)] h = (0, [some (.ref (86))], [], h) from by  rfl]
  refine ex_weak (ls := [some (.ref (86))]) (le2_ok ⟨Or.inr rfl, trivial⟩) ?_
  unfold p284 at hp
  refine e_aload_n f284_0 rfl ?_
  refine e_getI f284_1 (WF.t w 86 (by decide)) (by decide) ?_
  have hp := Option.some.inj hp
  subst hp
  exact e_ireturn f284_4 (Or.inl rfl)
theorem f285_0 : fetch 285 0 = some (.aload_n 0, 0, 0, 0) := rfl
theorem f285_1 : fetch 285 1 = some (.iload_n 1, 0, 0, 0) := rfl
theorem f285_2 : fetch 285 2 = some (.invokevirtual 560, 277, 1, 0) := rfl
theorem f285_5 : fetch 285 5 = some (.ifCond .eq 21, 26, 0, 0) := rfl
theorem f285_8 : fetch 285 8 = some (.aload_n 0, 0, 0, 0) := rfl
theorem f285_9 : fetch 285 9 = some (.iload_n 2, 0, 0, 0) := rfl
theorem f285_10 : fetch 285 10 = some (.invokevirtual 301, 206, 1, 0) := rfl
theorem f285_13 : fetch 285 13 = some (.ifCond .eq 13, 26, 0, 0) := rfl
theorem f285_16 : fetch 285 16 = some (.aload_n 0, 0, 0, 0) := rfl
theorem f285_17 : fetch 285 17 = some (.getfield 182, 12, 78, 2) := rfl
theorem f285_20 : fetch 285 20 = some (.iload_n 1, 0, 0, 0) := rfl
theorem f285_21 : fetch 285 21 = some (.iaload, 0, 0, 0) := rfl
theorem f285_22 : fetch 285 22 = some (.iconst (-1), 0, 0, 0) := rfl
theorem f285_23 : fetch 285 23 = some (.if_icmp .eq 5, 28, 0, 0) := rfl
theorem f285_26 : fetch 285 26 = some (.iconst 0, 0, 0, 0) := rfl
theorem f285_27 : fetch 285 27 = some (.ireturn, 0, 0, 1) := rfl
theorem f285_28 : fetch 285 28 = some (.aload_n 0, 0, 0, 0) := rfl
theorem f285_29 : fetch 285 29 = some (.getfield 182, 12, 78, 2) := rfl
theorem f285_32 : fetch 285 32 = some (.iload_n 1, 0, 0, 0) := rfl
theorem f285_33 : fetch 285 33 = some (.iload_n 2, 0, 0, 0) := rfl
theorem f285_34 : fetch 285 34 = some (.iastore, 0, 0, 0) := rfl
theorem f285_35 : fetch 285 35 = some (.aload_n 0, 0, 0, 0) := rfl
theorem f285_36 : fetch 285 36 = some (.getfield 185, 12, 79, 2) := rfl
theorem f285_39 : fetch 285 39 = some (.iload_n 1, 0, 0, 0) := rfl
theorem f285_40 : fetch 285 40 = some (.aload_n 0, 0, 0, 0) := rfl
theorem f285_41 : fetch 285 41 = some (.getfield 244, 12, 1, 0) := rfl
theorem f285_44 : fetch 285 44 = some (.iastore, 0, 0, 0) := rfl
theorem f285_45 : fetch 285 45 = some (.aload_n 0, 0, 0, 0) := rfl
theorem f285_46 : fetch 285 46 = some (.getfield 188, 12, 80, 2) := rfl
theorem f285_49 : fetch 285 49 = some (.iload_n 1, 0, 0, 0) := rfl
theorem f285_50 : fetch 285 50 = some (.dup2, 0, 0, 0) := rfl
theorem f285_51 : fetch 285 51 = some (.iaload, 0, 0, 0) := rfl
theorem f285_52 : fetch 285 52 = some (.iconst 1, 0, 0, 0) := rfl
theorem f285_53 : fetch 285 53 = some (.iadd, 0, 0, 0) := rfl
theorem f285_54 : fetch 285 54 = some (.iastore, 0, 0, 0) := rfl
theorem f285_55 : fetch 285 55 = some (.iconst 1, 0, 0, 0) := rfl
theorem f285_56 : fetch 285 56 = some (.ireturn, 0, 0, 1) := rfl
set_option maxRecDepth 100000 in
set_option maxHeartbeats 4000000 in
theorem p285_ok (d : Nat) (h : HS) (w : WF h) (a0 : Int32) (a1 : Int32) (r : Int32 × HS) (hp : p285 h a0 a1 = some r) : ex (d + 3) 285 (ent 285 [.ref (86), .int (a0), .int (a1)] h) = some (some (.int (r.1)), r.2) := by
  rw [show ent 285 [.ref (86), .int (a0), .int (a1)] h = (0, [some (.ref (86)), some (.int (a0)), some (.int (a1))], [], h) from by  rfl]
  refine ex_weak (ls := [some (.ref (86)), some (.int (a0)), some (.int (a1))]) (le2_ok ⟨Or.inr rfl, Or.inr rfl, Or.inr rfl, trivial⟩) ?_
  unfold p285 at hp
  refine e_aload_n f285_0 rfl ?_
  refine e_iload_n f285_1 rfl ?_
  obtain ⟨r1, hr2, hp⟩ := bind_some hp
  try dsimp only at hp
  refine e_callV (st := []) (o := 86) (as := [.int (a0)]) f285_2 (by decide) rfl rfl (Nat.le_of_ble_eq_true rfl) (WF.t w 86 (by decide)) (Nat.le_of_ble_eq_true rfl) (p277_ok (d + 1) (h) w (a0) r1 hr2) ?_
  show ex _ 285 (5, [some (.ref (86)), some (.int (a0)), some (.int (a1))], [.int (r1)], h) = _
  by_cases hc3 : (r1) = (0 : Int32)
  · rw [if_pos hc3] at hp
    refine e_if_eq_t f285_5 hc3 ?_
    refine e_iconst (v := 0) f285_26 (by decide) ?_
    have hp := Option.some.inj hp
    subst hp
    exact e_ireturn f285_27 (by decide)
  · rw [if_neg hc3] at hp
    refine e_if_eq_f f285_5 hc3 ?_
    refine e_aload_n f285_8 rfl ?_
    refine e_iload_n f285_9 rfl ?_
    obtain ⟨r4, hr5, hp⟩ := bind_some hp
    try dsimp only at hp
    refine e_callV (st := []) (o := 86) (as := [.int (a1)]) f285_10 (by decide) rfl rfl (Nat.le_of_ble_eq_true rfl) (WF.t w 86 (by decide)) (Nat.le_of_ble_eq_true rfl) (p206_ok d (h) w (a1) r4 hr5) ?_
    show ex _ 285 (13, [some (.ref (86)), some (.int (a0)), some (.int (a1))], [.int (r4)], h) = _
    by_cases hc6 : (r4) = (0 : Int32)
    · rw [if_pos hc6] at hp
      refine e_if_eq_t f285_13 hc6 ?_
      refine e_iconst (v := 0) f285_26 (by decide) ?_
      have hp := Option.some.inj hp
      subst hp
      exact e_ireturn f285_27 (by decide)
    · rw [if_neg hc6] at hp
      refine e_if_eq_f f285_13 hc6 ?_
      refine e_aload_n f285_16 rfl ?_
      refine e_getR f285_17 (WF.t w 86 (by decide)) rfl (WF.r (q := 142) w 86 78 (by decide)) ?_
      refine e_iload_n f285_20 rfl ?_
      by_cases hg7 : (a0) < (0 : Int32) ∨ 30 ≤ (a0).toNatClampNeg
      · rw [if_pos hg7] at hp; cases hp
      rw [if_neg hg7] at hp
      refine e_iaload f285_21 (Or.inl (WF.t w 142 (by decide))) (WF.n w 142 (by decide)) hg7 ?_
      refine e_iconst (v := -1) f285_22 (by decide) ?_
      by_cases hc8 : (hI (h) (142) (a0).toNatClampNeg) = (((-1)) : Int32)
      · rw [if_pos hc8] at hp
        refine e_icmp_eq_t f285_23 hc8 ?_
        refine e_aload_n f285_28 rfl ?_
        refine e_getR f285_29 (WF.t w 86 (by decide)) rfl (WF.r (q := 142) w 86 78 (by decide)) ?_
        refine e_iload_n f285_32 rfl ?_
        refine e_iload_n f285_33 rfl ?_
        by_cases hg9 : (a0) < (0 : Int32) ∨ 30 ≤ (a0).toNatClampNeg
        · rw [if_pos hg9] at hp; cases hp
        rw [if_neg hg9] at hp
        refine e_iastore f285_34 (WF.t w 142 (by decide)) (WF.n w 142 (by decide)) hg9 ?_
        refine e_aload_n f285_35 rfl ?_
        refine e_getR f285_36 (WF.t w 86 (by decide)) rfl (WF.r (q := 143) w 86 79 (by decide)) ?_
        refine e_iload_n f285_39 rfl ?_
        refine e_aload_n f285_40 rfl ?_
        refine e_getI f285_41 (WF.t w 86 (by decide)) (by decide) ?_
        by_cases hg10 : (a0) < (0 : Int32) ∨ 30 ≤ (a0).toNatClampNeg
        · rw [if_pos hg10] at hp; cases hp
        rw [if_neg hg10] at hp
        refine e_iastore f285_44 (WF.t w 143 (by decide)) (WF.n w 143 (by decide)) hg10 ?_
        obtain ⟨h11, e12, hp⟩ := bind_some hp
        try dsimp only at hp
        have e12 := Option.some.inj e12
        have w13 : WF h11 := e12 ▸ w
        rw [e12]
        refine e_aload_n f285_45 rfl ?_
        refine e_getR f285_46 (WF.t w13 86 (by decide)) rfl (WF.r (q := 144) w13 86 80 (by decide)) ?_
        refine e_iload_n f285_49 rfl ?_
        refine e_dup2 f285_50 rfl rfl ?_
        by_cases hg14 : (a0) < (0 : Int32) ∨ 30 ≤ (a0).toNatClampNeg
        · rw [if_pos hg14] at hp; cases hp
        rw [if_neg hg14] at hp
        refine e_iaload f285_51 (Or.inl (WF.t w13 144 (by decide))) (WF.n w13 144 (by decide)) hg14 ?_
        refine e_iconst (v := 1) f285_52 (by decide) ?_
        refine e_iadd f285_53 ?_
        by_cases hg15 : (a0) < (0 : Int32) ∨ 30 ≤ (a0).toNatClampNeg
        · rw [if_pos hg15] at hp; cases hp
        rw [if_neg hg15] at hp
        refine e_iastore f285_54 (WF.t w13 144 (by decide)) (WF.n w13 144 (by decide)) hg15 ?_
        refine e_iconst (v := 1) f285_55 (by decide) ?_
        have hp := Option.some.inj hp
        subst hp
        exact e_ireturn f285_56 (by decide)
      · rw [if_neg hc8] at hp
        refine e_icmp_eq_f f285_23 hc8 ?_
        refine e_iconst (v := 0) f285_26 (by decide) ?_
        have hp := Option.some.inj hp
        subst hp
        exact e_ireturn f285_27 (by decide)
set_option maxRecDepth 100000 in
set_option maxHeartbeats 4000000 in
theorem p285_w (h : HS) (w : WF h) (a0 : Int32) (a1 : Int32) (r : Int32 × HS) (hp : p285 h a0 a1 = some r) : WF r.2 := by
  unfold p285 at hp
  obtain ⟨r1, hr2, hp⟩ := bind_some hp
  try dsimp only at hp
  by_cases hc3 : (r1) = (0 : Int32)
  · rw [if_pos hc3] at hp
    have hp := Option.some.inj hp
    subst hp
    exact (w)
  · rw [if_neg hc3] at hp
    obtain ⟨r4, hr5, hp⟩ := bind_some hp
    try dsimp only at hp
    by_cases hc6 : (r4) = (0 : Int32)
    · rw [if_pos hc6] at hp
      have hp := Option.some.inj hp
      subst hp
      exact (w)
    · rw [if_neg hc6] at hp
      by_cases hg7 : (a0) < (0 : Int32) ∨ 30 ≤ (a0).toNatClampNeg
      · rw [if_pos hg7] at hp; cases hp
      rw [if_neg hg7] at hp
      by_cases hc8 : (hI (h) (142) (a0).toNatClampNeg) = (((-1)) : Int32)
      · rw [if_pos hc8] at hp
        by_cases hg9 : (a0) < (0 : Int32) ∨ 30 ≤ (a0).toNatClampNeg
        · rw [if_pos hg9] at hp; cases hp
        rw [if_neg hg9] at hp
        by_cases hg10 : (a0) < (0 : Int32) ∨ 30 ≤ (a0).toNatClampNeg
        · rw [if_pos hg10] at hp; cases hp
        rw [if_neg hg10] at hp
        obtain ⟨h11, e12, hp⟩ := bind_some hp
        try dsimp only at hp
        have e12 := Option.some.inj e12
        have w13 : WF h11 := e12 ▸ w
        by_cases hg14 : (a0) < (0 : Int32) ∨ 30 ≤ (a0).toNatClampNeg
        · rw [if_pos hg14] at hp; cases hp
        rw [if_neg hg14] at hp
        by_cases hg15 : (a0) < (0 : Int32) ∨ 30 ≤ (a0).toNatClampNeg
        · rw [if_pos hg15] at hp; cases hp
        rw [if_neg hg15] at hp
        have hp := Option.some.inj hp
        subst hp
        exact (w13)
      · rw [if_neg hc8] at hp
        have hp := Option.some.inj hp
        subst hp
        exact (w)
theorem f286_0 : fetch 286 0 = some (.aload_n 0, 0, 0, 0) := rfl
theorem f286_1 : fetch 286 1 = some (.aload_n 0, 0, 0, 0) := rfl
theorem f286_2 : fetch 286 2 = some (.getfield 244, 12, 1, 0) := rfl
theorem f286_5 : fetch 286 5 = some (.invokevirtual 548, 270, 1, 0) := rfl
theorem f286_8 : fetch 286 8 = some (.aload_n 0, 0, 0, 0) := rfl
theorem f286_9 : fetch 286 9 = some (.iload_n 1, 0, 0, 0) := rfl
theorem f286_10 : fetch 286 10 = some (.invokevirtual 551, 279, 1, 0) := rfl
theorem f286_13 : fetch 286 13 = some (.aload_n 0, 0, 0, 0) := rfl
theorem f286_14 : fetch 286 14 = some (.aload_n 0, 0, 0, 0) := rfl
theorem f286_15 : fetch 286 15 = some (.getfield 182, 12, 78, 2) := rfl
theorem f286_18 : fetch 286 18 = some (.iload_n 1, 0, 0, 0) := rfl
theorem f286_19 : fetch 286 19 = some (.iaload, 0, 0, 0) := rfl
theorem f286_20 : fetch 286 20 = some (.invokevirtual 554, 280, 1, 0) := rfl
theorem f286_23 : fetch 286 23 = some (.aload_n 0, 0, 0, 0) := rfl
theorem f286_24 : fetch 286 24 = some (.aload_n 0, 0, 0, 0) := rfl
theorem f286_25 : fetch 286 25 = some (.aload_n 0, 0, 0, 0) := rfl
theorem f286_26 : fetch 286 26 = some (.getfield 244, 12, 1, 0) := rfl
theorem f286_29 : fetch 286 29 = some (.invokevirtual 526, 268, 1, 0) := rfl
theorem f286_32 : fetch 286 32 = some (.iconst 2, 0, 0, 0) := rfl
theorem f286_33 : fetch 286 33 = some (.invokevirtual 557, 274, 2, 0) := rfl
theorem f286_36 : fetch 286 36 = some (.istore_n 2, 0, 0, 0) := rfl
theorem f286_37 : fetch 286 37 = some (.iload_n 2, 0, 0, 0) := rfl
theorem f286_38 : fetch 286 38 = some (.iconst (-1), 0, 0, 0) := rfl
theorem f286_39 : fetch 286 39 = some (.if_icmp .ne 7, 46, 0, 0) := rfl
theorem f286_42 : fetch 286 42 = some (.lconst 0, 0, 0, 0) := rfl
theorem f286_43 : fetch 286 43 = some (.goto 8, 51, 0, 0) := rfl
theorem f286_46 : fetch 286 46 = some (.aload_n 0, 0, 0, 0) := rfl
theorem f286_47 : fetch 286 47 = some (.iload_n 2, 0, 0, 0) := rfl
theorem f286_48 : fetch 286 48 = some (.invokevirtual 537, 272, 1, 0) := rfl
theorem f286_51 : fetch 286 51 = some (.lreturn, 0, 0, 0) := rfl
set_option maxRecDepth 100000 in
set_option maxHeartbeats 4000000 in
theorem p286_ok (d : Nat) (F : Nat) (h : HS) (w : WF h) (a0 : Int32) (r : Int64 × HS) (hp : p286 F h a0 = some r) : ex (d + 4) 286 (ent 286 [.ref (86), .int (a0)] h) = some (some (.long (r.1)), r.2) := by
  rw [show ent 286 [.ref (86), .int (a0)] h = (0, [some (.ref (86)), some (.int (a0)), none], [], h) from by  rfl]
  refine ex_weak (ls := [some (.ref (86)), some (.int (a0)), none]) (le2_ok ⟨Or.inr rfl, Or.inr rfl, Or.inr rfl, trivial⟩) ?_
  unfold p286 at hp
  refine e_aload_n f286_0 rfl ?_
  refine e_aload_n f286_1 rfl ?_
  refine e_getI f286_2 (WF.t w 86 (by decide)) (by decide) ?_
  obtain ⟨r1, hr2, hp⟩ := bind_some hp
  try dsimp only at hp
  refine e_callV (st := []) (o := 86) (as := [.int (hI (h) (86) 1)]) f286_5 (by decide) rfl rfl (Nat.le_of_ble_eq_true rfl) (WF.t w 86 (by decide)) (Nat.le_of_ble_eq_true rfl) (p270_ok (d + 3) F (h) w (hI (h) (86) 1) r1 hr2) ?_
  show ex _ 286 (8, [some (.ref (86)), some (.int (a0)), none], [], r1) = _
  refine e_aload_n f286_8 rfl ?_
  refine e_iload_n f286_9 rfl ?_
  obtain ⟨r3, hr4, hp⟩ := bind_some hp
  try dsimp only at hp
  refine e_callV (st := []) (o := 86) (as := [.int (a0)]) f286_10 (by decide) rfl rfl (Nat.le_of_ble_eq_true rfl) (WF.t (p270_w F (h) w (hI (h) (86) 1)  r1 hr2) 86 (by decide)) (Nat.le_of_ble_eq_true rfl) (p279_ok (d + 2) (r1) (p270_w F (h) w (hI (h) (86) 1)  r1 hr2) (a0) r3 hr4) ?_
  show ex _ 286 (13, [some (.ref (86)), some (.int (a0)), none], [], r3) = _
  refine e_aload_n f286_13 rfl ?_
  refine e_aload_n f286_14 rfl ?_
  refine e_getR f286_15 (WF.t (p279_w (r1) (p270_w F (h) w (hI (h) (86) 1)  r1 hr2) (a0)  r3 hr4) 86 (by decide)) rfl (WF.r (q := 142) (p279_w (r1) (p270_w F (h) w (hI (h) (86) 1)  r1 hr2) (a0)  r3 hr4) 86 78 (by decide)) ?_
  refine e_iload_n f286_18 rfl ?_
  by_cases hg5 : (a0) < (0 : Int32) ∨ 30 ≤ (a0).toNatClampNeg
  · rw [if_pos hg5] at hp; cases hp
  rw [if_neg hg5] at hp
  refine e_iaload f286_19 (Or.inl (WF.t (p279_w (r1) (p270_w F (h) w (hI (h) (86) 1)  r1 hr2) (a0)  r3 hr4) 142 (by decide))) (WF.n (p279_w (r1) (p270_w F (h) w (hI (h) (86) 1)  r1 hr2) (a0)  r3 hr4) 142 (by decide)) hg5 ?_
  obtain ⟨r6, hr7, hp⟩ := bind_some hp
  try dsimp only at hp
  refine e_callV (st := []) (o := 86) (as := [.int (hI (r3) (142) (a0).toNatClampNeg)]) f286_20 (by decide) rfl rfl (Nat.le_of_ble_eq_true rfl) (WF.t (p279_w (r1) (p270_w F (h) w (hI (h) (86) 1)  r1 hr2) (a0)  r3 hr4) 86 (by decide)) (Nat.le_of_ble_eq_true rfl) (p280_ok (d + 3) (r3) (p279_w (r1) (p270_w F (h) w (hI (h) (86) 1)  r1 hr2) (a0)  r3 hr4) (hI (r3) (142) (a0).toNatClampNeg) r6 hr7) ?_
  show ex _ 286 (23, [some (.ref (86)), some (.int (a0)), none], [], r6) = _
  refine e_aload_n f286_23 rfl ?_
  refine e_aload_n f286_24 rfl ?_
  refine e_aload_n f286_25 rfl ?_
  refine e_getI f286_26 (WF.t (p280_w (r3) (p279_w (r1) (p270_w F (h) w (hI (h) (86) 1)  r1 hr2) (a0)  r3 hr4) (hI (r3) (142) (a0).toNatClampNeg)  r6 hr7) 86 (by decide)) (by decide) ?_
  obtain ⟨r8, hr9, hp⟩ := bind_some hp
  try dsimp only at hp
  refine e_callV (st := [.ref (86)]) (o := 86) (as := [.int (hI (r6) (86) 1)]) f286_29 (by decide) rfl rfl (Nat.le_of_ble_eq_true rfl) (WF.t (p280_w (r3) (p279_w (r1) (p270_w F (h) w (hI (h) (86) 1)  r1 hr2) (a0)  r3 hr4) (hI (r3) (142) (a0).toNatClampNeg)  r6 hr7) 86 (by decide)) (Nat.le_of_ble_eq_true rfl) (p268_ok (d + 3) F (r6) (p280_w (r3) (p279_w (r1) (p270_w F (h) w (hI (h) (86) 1)  r1 hr2) (a0)  r3 hr4) (hI (r3) (142) (a0).toNatClampNeg)  r6 hr7) (hI (r6) (86) 1) r8 hr9) ?_
  show ex _ 286 (32, [some (.ref (86)), some (.int (a0)), none], [.int (r8), .ref (86)], r6) = _
  refine e_iconst (v := 2) f286_32 (by decide) ?_
  obtain ⟨r10, hr11, hp⟩ := bind_some hp
  try dsimp only at hp
  refine e_callV (st := []) (o := 86) (as := [.int (r8), .int (2)]) f286_33 (by decide) rfl rfl (Nat.le_of_ble_eq_true rfl) (WF.t (p280_w (r3) (p279_w (r1) (p270_w F (h) w (hI (h) (86) 1)  r1 hr2) (a0)  r3 hr4) (hI (r3) (142) (a0).toNatClampNeg)  r6 hr7) 86 (by decide)) (Nat.le_of_ble_eq_true rfl) (p274_ok d F (r6) (p280_w (r3) (p279_w (r1) (p270_w F (h) w (hI (h) (86) 1)  r1 hr2) (a0)  r3 hr4) (hI (r3) (142) (a0).toNatClampNeg)  r6 hr7) (r8) (2) r10 hr11) ?_
  show ex _ 286 (36, [some (.ref (86)), some (.int (a0)), none], [.int (r10.1)], r10.2) = _
  refine e_istore_n (ls2 := [some (.ref (86)), some (.int (a0)), some (.int (r10.1))]) f286_36 (Nat.le_of_ble_eq_true rfl) rfl ?_
  refine e_iload_n f286_37 rfl ?_
  refine e_iconst (v := -1) f286_38 (by decide) ?_
  by_cases hc12 : (r10.1) = (((-1)) : Int32)
  · rw [if_pos hc12] at hp
    refine e_icmp_ne_f f286_39 hc12 ?_
    refine e_lconst (v := 0) f286_42 (by decide) ?_
    refine e_goto f286_43 ?_
    have hp := Option.some.inj hp
    subst hp
    exact e_lreturn f286_51
  · rw [if_neg hc12] at hp
    refine e_icmp_ne_t f286_39 hc12 ?_
    refine e_aload_n f286_46 rfl ?_
    refine e_iload_n f286_47 rfl ?_
    obtain ⟨r13, hr14, hp⟩ := bind_some hp
    try dsimp only at hp
    refine e_callV (st := []) (o := 86) (as := [.int (r10.1)]) f286_48 (by decide) rfl rfl (Nat.le_of_ble_eq_true rfl) (WF.t (p274_w F (r6) (p280_w (r3) (p279_w (r1) (p270_w F (h) w (hI (h) (86) 1)  r1 hr2) (a0)  r3 hr4) (hI (r3) (142) (a0).toNatClampNeg)  r6 hr7) (r8) (2)  r10 hr11) 86 (by decide)) (Nat.le_of_ble_eq_true rfl) (p272_ok (d + 1) F (r10.2) (p274_w F (r6) (p280_w (r3) (p279_w (r1) (p270_w F (h) w (hI (h) (86) 1)  r1 hr2) (a0)  r3 hr4) (hI (r3) (142) (a0).toNatClampNeg)  r6 hr7) (r8) (2)  r10 hr11) (r10.1) r13 hr14) ?_
    show ex _ 286 (51, [some (.ref (86)), some (.int (a0)), some (.int (r10.1))], [.long (r13.1)], r13.2) = _
    have hp := Option.some.inj hp
    subst hp
    exact e_lreturn f286_51
set_option maxRecDepth 100000 in
set_option maxHeartbeats 4000000 in
theorem p286_w (F : Nat) (h : HS) (w : WF h) (a0 : Int32) (r : Int64 × HS) (hp : p286 F h a0 = some r) : WF r.2 := by
  unfold p286 at hp
  obtain ⟨r1, hr2, hp⟩ := bind_some hp
  try dsimp only at hp
  obtain ⟨r3, hr4, hp⟩ := bind_some hp
  try dsimp only at hp
  by_cases hg5 : (a0) < (0 : Int32) ∨ 30 ≤ (a0).toNatClampNeg
  · rw [if_pos hg5] at hp; cases hp
  rw [if_neg hg5] at hp
  obtain ⟨r6, hr7, hp⟩ := bind_some hp
  try dsimp only at hp
  obtain ⟨r8, hr9, hp⟩ := bind_some hp
  try dsimp only at hp
  obtain ⟨r10, hr11, hp⟩ := bind_some hp
  try dsimp only at hp
  by_cases hc12 : (r10.1) = (((-1)) : Int32)
  · rw [if_pos hc12] at hp
    have hp := Option.some.inj hp
    subst hp
    exact ((p274_w F (r6) (p280_w (r3) (p279_w (r1) (p270_w F (h) w (hI (h) (86) 1)  r1 hr2) (a0)  r3 hr4) (hI (r3) (142) (a0).toNatClampNeg)  r6 hr7) (r8) (2)  r10 hr11))
  · rw [if_neg hc12] at hp
    obtain ⟨r13, hr14, hp⟩ := bind_some hp
    try dsimp only at hp
    have hp := Option.some.inj hp
    subst hp
    exact ((p272_w F (r10.2) (p274_w F (r6) (p280_w (r3) (p279_w (r1) (p270_w F (h) w (hI (h) (86) 1)  r1 hr2) (a0)  r3 hr4) (hI (r3) (142) (a0).toNatClampNeg)  r6 hr7) (r8) (2)  r10 hr11) (r10.1)  r13 hr14))
theorem f287_0 : fetch 287 0 = some (.aload_n 0, 0, 0, 0) := rfl
theorem f287_1 : fetch 287 1 = some (.iload_n 1, 0, 0, 0) := rfl
theorem f287_2 : fetch 287 2 = some (.invokevirtual 560, 277, 1, 0) := rfl
theorem f287_5 : fetch 287 5 = some (.ifCond .eq 21, 26, 0, 0) := rfl
theorem f287_8 : fetch 287 8 = some (.aload_n 0, 0, 0, 0) := rfl
theorem f287_9 : fetch 287 9 = some (.getfield 182, 12, 78, 2) := rfl
theorem f287_12 : fetch 287 12 = some (.iload_n 1, 0, 0, 0) := rfl
theorem f287_13 : fetch 287 13 = some (.iaload, 0, 0, 0) := rfl
theorem f287_14 : fetch 287 14 = some (.iconst (-1), 0, 0, 0) := rfl
theorem f287_15 : fetch 287 15 = some (.if_icmp .eq 11, 26, 0, 0) := rfl
theorem f287_18 : fetch 287 18 = some (.aload_n 0, 0, 0, 0) := rfl
theorem f287_19 : fetch 287 19 = some (.iload_n 1, 0, 0, 0) := rfl
theorem f287_20 : fetch 287 20 = some (.invokevirtual 572, 286, 1, 0) := rfl
theorem f287_23 : fetch 287 23 = some (.goto 6, 29, 0, 0) := rfl
theorem f287_26 : fetch 287 26 = some (.ldc2_w 575, 0, 0, -9223372036854775808) := rfl
theorem f287_29 : fetch 287 29 = some (.lreturn, 0, 0, 0) := rfl
set_option maxRecDepth 100000 in
set_option maxHeartbeats 4000000 in
theorem p287_ok (d : Nat) (F : Nat) (h : HS) (w : WF h) (a0 : Int32) (r : Int64 × HS) (hp : p287 F h a0 = some r) : ex (d + 5) 287 (ent 287 [.ref (86), .int (a0)] h) = some (some (.long (r.1)), r.2) := by
  rw [show ent 287 [.ref (86), .int (a0)] h = (0, [some (.ref (86)), some (.int (a0))], [], h) from by  rfl]
  refine ex_weak (ls := [some (.ref (86)), some (.int (a0))]) (le2_ok ⟨Or.inr rfl, Or.inr rfl, trivial⟩) ?_
  unfold p287 at hp
  refine e_aload_n f287_0 rfl ?_
  refine e_iload_n f287_1 rfl ?_
  obtain ⟨r1, hr2, hp⟩ := bind_some hp
  try dsimp only at hp
  refine e_callV (st := []) (o := 86) (as := [.int (a0)]) f287_2 (by decide) rfl rfl (Nat.le_of_ble_eq_true rfl) (WF.t w 86 (by decide)) (Nat.le_of_ble_eq_true rfl) (p277_ok (d + 3) (h) w (a0) r1 hr2) ?_
  show ex _ 287 (5, [some (.ref (86)), some (.int (a0))], [.int (r1)], h) = _
  by_cases hc3 : (r1) = (0 : Int32)
  · rw [if_pos hc3] at hp
    refine e_if_eq_t f287_5 hc3 ?_
    refine e_ldc2 (v := -9223372036854775808) f287_26 (by decide) ?_
    have hp := Option.some.inj hp
    subst hp
    exact e_lreturn f287_29
  · rw [if_neg hc3] at hp
    refine e_if_eq_f f287_5 hc3 ?_
    refine e_aload_n f287_8 rfl ?_
    refine e_getR f287_9 (WF.t w 86 (by decide)) rfl (WF.r (q := 142) w 86 78 (by decide)) ?_
    refine e_iload_n f287_12 rfl ?_
    by_cases hg4 : (a0) < (0 : Int32) ∨ 30 ≤ (a0).toNatClampNeg
    · rw [if_pos hg4] at hp; cases hp
    rw [if_neg hg4] at hp
    refine e_iaload f287_13 (Or.inl (WF.t w 142 (by decide))) (WF.n w 142 (by decide)) hg4 ?_
    refine e_iconst (v := -1) f287_14 (by decide) ?_
    by_cases hc5 : (hI (h) (142) (a0).toNatClampNeg) = (((-1)) : Int32)
    · rw [if_pos hc5] at hp
      refine e_icmp_eq_t f287_15 hc5 ?_
      refine e_ldc2 (v := -9223372036854775808) f287_26 (by decide) ?_
      have hp := Option.some.inj hp
      subst hp
      exact e_lreturn f287_29
    · rw [if_neg hc5] at hp
      refine e_icmp_eq_f f287_15 hc5 ?_
      refine e_aload_n f287_18 rfl ?_
      refine e_iload_n f287_19 rfl ?_
      obtain ⟨r6, hr7, hp⟩ := bind_some hp
      try dsimp only at hp
      refine e_callV (st := []) (o := 86) (as := [.int (a0)]) f287_20 (by decide) rfl rfl (Nat.le_of_ble_eq_true rfl) (WF.t w 86 (by decide)) (Nat.le_of_ble_eq_true rfl) (p286_ok d F (h) w (a0) r6 hr7) ?_
      show ex _ 287 (23, [some (.ref (86)), some (.int (a0))], [.long (r6.1)], r6.2) = _
      refine e_goto f287_23 ?_
      have hp := Option.some.inj hp
      subst hp
      exact e_lreturn f287_29
set_option maxRecDepth 100000 in
set_option maxHeartbeats 4000000 in
theorem p287_w (F : Nat) (h : HS) (w : WF h) (a0 : Int32) (r : Int64 × HS) (hp : p287 F h a0 = some r) : WF r.2 := by
  unfold p287 at hp
  obtain ⟨r1, hr2, hp⟩ := bind_some hp
  try dsimp only at hp
  by_cases hc3 : (r1) = (0 : Int32)
  · rw [if_pos hc3] at hp
    have hp := Option.some.inj hp
    subst hp
    exact (w)
  · rw [if_neg hc3] at hp
    by_cases hg4 : (a0) < (0 : Int32) ∨ 30 ≤ (a0).toNatClampNeg
    · rw [if_pos hg4] at hp; cases hp
    rw [if_neg hg4] at hp
    by_cases hc5 : (hI (h) (142) (a0).toNatClampNeg) = (((-1)) : Int32)
    · rw [if_pos hc5] at hp
      have hp := Option.some.inj hp
      subst hp
      exact (w)
    · rw [if_neg hc5] at hp
      obtain ⟨r6, hr7, hp⟩ := bind_some hp
      try dsimp only at hp
      have hp := Option.some.inj hp
      subst hp
      exact ((p286_w F (h) w (a0)  r6 hr7))
theorem f288_0 : fetch 288 0 = some (.iconst (-1), 0, 0, 0) := rfl
theorem f288_1 : fetch 288 1 = some (.istore_n 1, 0, 0, 0) := rfl
theorem f288_2 : fetch 288 2 = some (.lconst 0, 0, 0, 0) := rfl
theorem f288_3 : fetch 288 3 = some (.lstore_n 2, 0, 0, 0) := rfl
theorem f288_4 : fetch 288 4 = some (.iconst 0, 0, 0, 0) := rfl
theorem f288_5 : fetch 288 5 = some (.istore 4, 0, 0, 0) := rfl
theorem f288_7 : fetch 288 7 = some (.iload 4, 0, 0, 0) := rfl
theorem f288_9 : fetch 288 9 = some (.aload_n 0, 0, 0, 0) := rfl
theorem f288_10 : fetch 288 10 = some (.getfield 542, 12, 72, 0) := rfl
theorem f288_13 : fetch 288 13 = some (.if_icmp .ge 108, 121, 0, 0) := rfl
theorem f288_16 : fetch 288 16 = some (.aload_n 0, 0, 0, 0) := rfl
theorem f288_17 : fetch 288 17 = some (.getfield 182, 12, 78, 2) := rfl
theorem f288_20 : fetch 288 20 = some (.iload 4, 0, 0, 0) := rfl
theorem f288_22 : fetch 288 22 = some (.iaload, 0, 0, 0) := rfl
theorem f288_23 : fetch 288 23 = some (.iconst (-1), 0, 0, 0) := rfl
theorem f288_24 : fetch 288 24 = some (.if_icmp .eq 91, 115, 0, 0) := rfl
theorem f288_27 : fetch 288 27 = some (.aload_n 0, 0, 0, 0) := rfl
theorem f288_28 : fetch 288 28 = some (.getfield 37, 12, 16, 2) := rfl
theorem f288_31 : fetch 288 31 = some (.aload_n 0, 0, 0, 0) := rfl
theorem f288_32 : fetch 288 32 = some (.getfield 182, 12, 78, 2) := rfl
theorem f288_35 : fetch 288 35 = some (.iload 4, 0, 0, 0) := rfl
theorem f288_37 : fetch 288 37 = some (.iaload, 0, 0, 0) := rfl
theorem f288_38 : fetch 288 38 = some (.iaload, 0, 0, 0) := rfl
theorem f288_39 : fetch 288 39 = some (.ldc_w 290, 0, 0, 100000) := rfl
theorem f288_42 : fetch 288 42 = some (.if_icmp .eq 73, 115, 0, 0) := rfl
theorem f288_45 : fetch 288 45 = some (.aload_n 0, 0, 0, 0) := rfl
theorem f288_46 : fetch 288 46 = some (.getfield 40, 12, 17, 2) := rfl
theorem f288_49 : fetch 288 49 = some (.aload_n 0, 0, 0, 0) := rfl
theorem f288_50 : fetch 288 50 = some (.getfield 182, 12, 78, 2) := rfl
theorem f288_53 : fetch 288 53 = some (.iload 4, 0, 0, 0) := rfl
theorem f288_55 : fetch 288 55 = some (.iaload, 0, 0, 0) := rfl
theorem f288_56 : fetch 288 56 = some (.iaload, 0, 0, 0) := rfl
theorem f288_57 : fetch 288 57 = some (.ldc_w 290, 0, 0, 100000) := rfl
theorem f288_60 : fetch 288 60 = some (.if_icmp .eq 6, 66, 0, 0) := rfl
theorem f288_63 : fetch 288 63 = some (.goto 52, 115, 0, 0) := rfl
theorem f288_66 : fetch 288 66 = some (.aload_n 0, 0, 0, 0) := rfl
theorem f288_67 : fetch 288 67 = some (.iload 4, 0, 0, 0) := rfl
theorem f288_69 : fetch 288 69 = some (.invokevirtual 572, 286, 1, 0) := rfl
theorem f288_72 : fetch 288 72 = some (.lstore 5, 0, 0, 0) := rfl
theorem f288_74 : fetch 288 74 = some (.iload_n 1, 0, 0, 0) := rfl
theorem f288_75 : fetch 288 75 = some (.iconst (-1), 0, 0, 0) := rfl
theorem f288_76 : fetch 288 76 = some (.if_icmp .eq 33, 109, 0, 0) := rfl
theorem f288_79 : fetch 288 79 = some (.lload 5, 0, 0, 0) := rfl
theorem f288_81 : fetch 288 81 = some (.lload_n 2, 0, 0, 0) := rfl
theorem f288_82 : fetch 288 82 = some (.lcmp, 0, 0, 0) := rfl
theorem f288_83 : fetch 288 83 = some (.ifCond .gt 26, 109, 0, 0) := rfl
theorem f288_86 : fetch 288 86 = some (.lload 5, 0, 0, 0) := rfl
theorem f288_88 : fetch 288 88 = some (.lload_n 2, 0, 0, 0) := rfl
theorem f288_89 : fetch 288 89 = some (.lcmp, 0, 0, 0) := rfl
theorem f288_90 : fetch 288 90 = some (.ifCond .ne 25, 115, 0, 0) := rfl
theorem f288_93 : fetch 288 93 = some (.aload_n 0, 0, 0, 0) := rfl
theorem f288_94 : fetch 288 94 = some (.getfield 185, 12, 79, 2) := rfl
theorem f288_97 : fetch 288 97 = some (.iload 4, 0, 0, 0) := rfl
theorem f288_99 : fetch 288 99 = some (.iaload, 0, 0, 0) := rfl
theorem f288_100 : fetch 288 100 = some (.aload_n 0, 0, 0, 0) := rfl
theorem f288_101 : fetch 288 101 = some (.getfield 185, 12, 79, 2) := rfl
theorem f288_104 : fetch 288 104 = some (.iload_n 1, 0, 0, 0) := rfl
theorem f288_105 : fetch 288 105 = some (.iaload, 0, 0, 0) := rfl
theorem f288_106 : fetch 288 106 = some (.if_icmp .ge 9, 115, 0, 0) := rfl
theorem f288_109 : fetch 288 109 = some (.iload 4, 0, 0, 0) := rfl
theorem f288_111 : fetch 288 111 = some (.istore_n 1, 0, 0, 0) := rfl
theorem f288_112 : fetch 288 112 = some (.lload 5, 0, 0, 0) := rfl
theorem f288_114 : fetch 288 114 = some (.lstore_n 2, 0, 0, 0) := rfl
theorem f288_115 : fetch 288 115 = some (.iinc 4 1, 0, 0, 0) := rfl
theorem f288_118 : fetch 288 118 = some (.goto (-111), 7, 0, 0) := rfl
theorem f288_121 : fetch 288 121 = some (.iload_n 1, 0, 0, 0) := rfl
theorem f288_122 : fetch 288 122 = some (.iconst (-1), 0, 0, 0) := rfl
theorem f288_123 : fetch 288 123 = some (.if_icmp .ne 5, 128, 0, 0) := rfl
theorem f288_126 : fetch 288 126 = some (.iconst (-1), 0, 0, 0) := rfl
theorem f288_127 : fetch 288 127 = some (.ireturn, 0, 0, 0) := rfl
theorem f288_128 : fetch 288 128 = some (.aload_n 0, 0, 0, 0) := rfl
theorem f288_129 : fetch 288 129 = some (.getfield 182, 12, 78, 2) := rfl
theorem f288_132 : fetch 288 132 = some (.iload_n 1, 0, 0, 0) := rfl
theorem f288_133 : fetch 288 133 = some (.iaload, 0, 0, 0) := rfl
theorem f288_134 : fetch 288 134 = some (.istore 4, 0, 0, 0) := rfl
theorem f288_136 : fetch 288 136 = some (.aload_n 0, 0, 0, 0) := rfl
theorem f288_137 : fetch 288 137 = some (.invokevirtual 566, 278, 0, 0) := rfl
theorem f288_140 : fetch 288 140 = some (.iconst 0, 0, 0, 0) := rfl
theorem f288_141 : fetch 288 141 = some (.istore 5, 0, 0, 0) := rfl
theorem f288_143 : fetch 288 143 = some (.iload 5, 0, 0, 0) := rfl
theorem f288_145 : fetch 288 145 = some (.aload_n 0, 0, 0, 0) := rfl
theorem f288_146 : fetch 288 146 = some (.getfield 46, 12, 19, 2) := rfl
theorem f288_149 : fetch 288 149 = some (.iload 4, 0, 0, 0) := rfl
theorem f288_151 : fetch 288 151 = some (.iaload, 0, 0, 0) := rfl
theorem f288_152 : fetch 288 152 = some (.if_icmp .ge 89, 241, 0, 0) := rfl
theorem f288_155 : fetch 288 155 = some (.aload_n 0, 0, 0, 0) := rfl
theorem f288_156 : fetch 288 156 = some (.iload_n 1, 0, 0, 0) := rfl
theorem f288_157 : fetch 288 157 = some (.iload 4, 0, 0, 0) := rfl
theorem f288_159 : fetch 288 159 = some (.iload 5, 0, 0, 0) := rfl
theorem f288_161 : fetch 288 161 = some (.invokevirtual 569, 281, 3, 0) := rfl
theorem f288_164 : fetch 288 164 = some (.istore 6, 0, 0, 0) := rfl
theorem f288_166 : fetch 288 166 = some (.iload 6, 0, 0, 0) := rfl
theorem f288_168 : fetch 288 168 = some (.iconst (-1), 0, 0, 0) := rfl
theorem f288_169 : fetch 288 169 = some (.if_icmp .ne 7, 176, 0, 0) := rfl
theorem f288_172 : fetch 288 172 = some (.iconst 0, 0, 0, 0) := rfl
theorem f288_173 : fetch 288 173 = some (.goto 12, 185, 0, 0) := rfl
theorem f288_176 : fetch 288 176 = some (.iconst 2, 0, 0, 0) := rfl
theorem f288_177 : fetch 288 177 = some (.aload_n 0, 0, 0, 0) := rfl
theorem f288_178 : fetch 288 178 = some (.getfield 141, 12, 62, 2) := rfl
theorem f288_181 : fetch 288 181 = some (.iload 6, 0, 0, 0) := rfl
theorem f288_183 : fetch 288 183 = some (.iaload, 0, 0, 0) := rfl
theorem f288_184 : fetch 288 184 = some (.isub, 0, 0, 0) := rfl
theorem f288_185 : fetch 288 185 = some (.istore 7, 0, 0, 0) := rfl
theorem f288_187 : fetch 288 187 = some (.sipush 4000, 0, 0, 0) := rfl
theorem f288_190 : fetch 288 190 = some (.iload_n 1, 0, 0, 0) := rfl
theorem f288_191 : fetch 288 191 = some (.imul, 0, 0, 0) := rfl
theorem f288_192 : fetch 288 192 = some (.bipush 20, 0, 0, 0) := rfl
theorem f288_194 : fetch 288 194 = some (.iload 4, 0, 0, 0) := rfl
theorem f288_196 : fetch 288 196 = some (.imul, 0, 0, 0) := rfl
theorem f288_197 : fetch 288 197 = some (.iadd, 0, 0, 0) := rfl
theorem f288_198 : fetch 288 198 = some (.iload 5, 0, 0, 0) := rfl
theorem f288_200 : fetch 288 200 = some (.iadd, 0, 0, 0) := rfl
theorem f288_201 : fetch 288 201 = some (.istore 8, 0, 0, 0) := rfl
theorem f288_203 : fetch 288 203 = some (.aload_n 0, 0, 0, 0) := rfl
theorem f288_204 : fetch 288 204 = some (.getfield 195, 12, 82, 2) := rfl
theorem f288_207 : fetch 288 207 = some (.iload 8, 0, 0, 0) := rfl
theorem f288_209 : fetch 288 209 = some (.iload 7, 0, 0, 0) := rfl
theorem f288_211 : fetch 288 211 = some (.aload_n 0, 0, 0, 0) := rfl
theorem f288_212 : fetch 288 212 = some (.getfield 195, 12, 82, 2) := rfl
theorem f288_215 : fetch 288 215 = some (.iload 8, 0, 0, 0) := rfl
theorem f288_217 : fetch 288 217 = some (.baload, 0, 0, 0) := rfl
theorem f288_218 : fetch 288 218 = some (.if_icmp .le 8, 226, 0, 0) := rfl
theorem f288_221 : fetch 288 221 = some (.iload 7, 0, 0, 0) := rfl
theorem f288_223 : fetch 288 223 = some (.goto 10, 233, 0, 0) := rfl
theorem f288_226 : fetch 288 226 = some (.aload_n 0, 0, 0, 0) := rfl
theorem f288_227 : fetch 288 227 = some (.getfield 195, 12, 82, 2) := rfl
theorem f288_230 : fetch 288 230 = some (.iload 8, 0, 0, 0) := rfl
theorem f288_232 : fetch 288 232 = some (.baload, 0, 0, 0) := rfl
theorem f288_233 : fetch 288 233 = some (.i2b, 0, 0, 0) := rfl
theorem f288_234 : fetch 288 234 = some (.bastore, 0, 0, 0) := rfl
theorem f288_235 : fetch 288 235 = some (.iinc 5 1, 0, 0, 0) := rfl
theorem f288_238 : fetch 288 238 = some (.goto (-95), 143, 0, 0) := rfl
theorem f288_241 : fetch 288 241 = some (.aload_n 0, 0, 0, 0) := rfl
theorem f288_242 : fetch 288 242 = some (.getfield 182, 12, 78, 2) := rfl
theorem f288_245 : fetch 288 245 = some (.iload_n 1, 0, 0, 0) := rfl
theorem f288_246 : fetch 288 246 = some (.iconst (-1), 0, 0, 0) := rfl
theorem f288_247 : fetch 288 247 = some (.iastore, 0, 0, 0) := rfl
theorem f288_248 : fetch 288 248 = some (.iload_n 1, 0, 0, 0) := rfl
theorem f288_249 : fetch 288 249 = some (.ireturn, 0, 0, 0) := rfl
set_option maxRecDepth 100000 in
set_option maxHeartbeats 4000000 in
theorem p288_j115_ok (d : Nat) (F : Nat) (K7 : HS → Int32 → Int64 → Int32 → Option (Int32 × HS)) (hK7 : ∀ (h : HS) (w : WF h) (u1 : Int32) (u2 : Int64) (u4 : Int32) (r : Int32 × HS), K7 h u1 u2 u4 = some r → ex (d + 8) 288 (7, [some (.ref (86)), some (.int (u1)), some (.long (u2)), none, some (.int (u4)), none, none, none, none], [], h) = some (some (.int (r.1)), r.2)) (h : HS) (w : WF h) (v1 : Int32) (v2 : Int64) (v4 : Int32) (r : Int32 × HS) (hp : p288_j115 F K7 h v1 v2 v4 = some r) : ex (d + 8) 288 (115, [some (.ref (86)), some (.int (v1)), some (.long (v2)), none, some (.int (v4)), none, none, none, none], [], h) = some (some (.int (r.1)), r.2) := by
  unfold p288_j115 at hp
  refine e_iinc (ls2 := [some (.ref (86)), some (.int (v1)), some (.long (v2)), none, some (.int ((v4) + 1)), none, none, none, none]) f288_115 (by decide) rfl rfl ?_
  refine e_goto f288_118 ?_
  refine ex_weak (ls := [some (.ref (86)), some (.int (v1)), some (.long (v2)), none, some (.int ((v4) + 1)), none, none, none, none]) (le2_ok ⟨Or.inr rfl, Or.inr rfl, Or.inr rfl, Or.inl rfl, Or.inr rfl, Or.inl rfl, Or.inl rfl, Or.inl rfl, Or.inl rfl, trivial⟩) ?_
  exact hK7 (h) (w) (v1) (v2) ((v4) + 1) _ hp
set_option maxRecDepth 100000 in
set_option maxHeartbeats 4000000 in
theorem p288_j115_w (F : Nat) (K7 : HS → Int32 → Int64 → Int32 → Option (Int32 × HS)) (hK7 : ∀ (h : HS) (w : WF h) (u1 : Int32) (u2 : Int64) (u4 : Int32) (r : Int32 × HS), K7 h u1 u2 u4 = some r → WF r.2) (h : HS) (w : WF h) (v1 : Int32) (v2 : Int64) (v4 : Int32) (r : Int32 × HS) (hp : p288_j115 F K7 h v1 v2 v4 = some r) : WF r.2 := by
  unfold p288_j115 at hp
  exact hK7 (h) (w) (v1) (v2) ((v4) + 1) _ hp
set_option maxRecDepth 100000 in
set_option maxHeartbeats 4000000 in
theorem p288_j233_ok (d : Nat) (F : Nat) (K143 : HS → Int32 → Int32 → Int32 → Option (Int32 × HS)) (hK143 : ∀ (h : HS) (w : WF h) (u1 : Int32) (u4 : Int32) (u5 : Int32) (r : Int32 × HS), K143 h u1 u4 u5 = some r → ex (d + 8) 288 (143, [some (.ref (86)), some (.int (u1)), none, none, some (.int (u4)), some (.int (u5)), none, none, none], [], h) = some (some (.int (r.1)), r.2)) (h : HS) (w : WF h) (v1 : Int32) (v4 : Int32) (v5 : Int32) (s0 : Int32) (s1 : Int32) (r : Int32 × HS) (hp : p288_j233 F K143 h v1 v4 v5 s0 s1 = some r) : ex (d + 8) 288 (233, [some (.ref (86)), some (.int (v1)), none, none, some (.int (v4)), some (.int (v5)), none, none, none], [.int (s0), .int (s1), .ref (146)], h) = some (some (.int (r.1)), r.2) := by
  unfold p288_j233 at hp
  refine e_i2b f288_233 ?_
  by_cases hg32 : (s1) < (0 : Int32) ∨ 120000 ≤ (s1).toNatClampNeg
  · rw [if_pos hg32] at hp; cases hp
  rw [if_neg hg32] at hp
  refine e_bastore f288_234 (WF.t w 146 (by decide)) (WF.n w 146 (by decide)) hg32 ?_
  refine e_iinc (ls2 := [some (.ref (86)), some (.int (v1)), none, none, some (.int (v4)), some (.int ((v5) + 1)), none, none, none]) f288_235 (by decide) rfl rfl ?_
  refine e_goto f288_238 ?_
  refine ex_weak (ls := [some (.ref (86)), some (.int (v1)), none, none, some (.int (v4)), some (.int ((v5) + 1)), none, none, none]) (le2_ok ⟨Or.inr rfl, Or.inr rfl, Or.inl rfl, Or.inl rfl, Or.inr rfl, Or.inr rfl, Or.inl rfl, Or.inl rfl, Or.inl rfl, trivial⟩) ?_
  exact hK143 (hsI (h) (146) (s1).toNatClampNeg (vp_nar .byte ((s0).toInt8.toInt32))) (w) (v1) (v4) ((v5) + 1) _ hp
set_option maxRecDepth 100000 in
set_option maxHeartbeats 4000000 in
theorem p288_j233_w (F : Nat) (K143 : HS → Int32 → Int32 → Int32 → Option (Int32 × HS)) (hK143 : ∀ (h : HS) (w : WF h) (u1 : Int32) (u4 : Int32) (u5 : Int32) (r : Int32 × HS), K143 h u1 u4 u5 = some r → WF r.2) (h : HS) (w : WF h) (v1 : Int32) (v4 : Int32) (v5 : Int32) (s0 : Int32) (s1 : Int32) (r : Int32 × HS) (hp : p288_j233 F K143 h v1 v4 v5 s0 s1 = some r) : WF r.2 := by
  unfold p288_j233 at hp
  by_cases hg32 : (s1) < (0 : Int32) ∨ 120000 ≤ (s1).toNatClampNeg
  · rw [if_pos hg32] at hp; cases hp
  rw [if_neg hg32] at hp
  exact hK143 (hsI (h) (146) (s1).toNatClampNeg (vp_nar .byte ((s0).toInt8.toInt32))) (w) (v1) (v4) ((v5) + 1) _ hp
set_option maxRecDepth 100000 in
set_option maxHeartbeats 4000000 in
theorem p288_j109_ok (d : Nat) (F : Nat) (K7 : HS → Int32 → Int64 → Int32 → Option (Int32 × HS)) (hK7 : ∀ (h : HS) (w : WF h) (u1 : Int32) (u2 : Int64) (u4 : Int32) (r : Int32 × HS), K7 h u1 u2 u4 = some r → ex (d + 8) 288 (7, [some (.ref (86)), some (.int (u1)), some (.long (u2)), none, some (.int (u4)), none, none, none, none], [], h) = some (some (.int (r.1)), r.2)) (h : HS) (w : WF h) (v4 : Int32) (v5 : Int64) (r : Int32 × HS) (hp : p288_j109 F K7 h v4 v5 = some r) : ex (d + 8) 288 (109, [some (.ref (86)), none, none, none, some (.int (v4)), some (.long (v5)), none, none, none], [], h) = some (some (.int (r.1)), r.2) := by
  unfold p288_j109 at hp
  refine e_iload f288_109 rfl ?_
  refine e_istore_n (ls2 := [some (.ref (86)), some (.int (v4)), none, none, some (.int (v4)), some (.long (v5)), none, none, none]) f288_111 (Nat.le_of_ble_eq_true rfl) rfl ?_
  refine e_lload f288_112 rfl ?_
  refine e_lstore_n (ls2 := [some (.ref (86)), some (.int (v4)), some (.long (v5)), none, some (.int (v4)), some (.long (v5)), none, none, none]) f288_114 (Nat.le_of_ble_eq_true rfl) rfl ?_
  refine ex_weak (ls := [some (.ref (86)), some (.int (v4)), some (.long (v5)), none, some (.int (v4)), none, none, none, none]) (le2_ok ⟨Or.inr rfl, Or.inr rfl, Or.inr rfl, Or.inl rfl, Or.inr rfl, Or.inl rfl, Or.inl rfl, Or.inl rfl, Or.inl rfl, trivial⟩) ?_
  exact p288_j115_ok d F (K7) (hK7) (h) (w) (v4) (v5) (v4) _ hp
set_option maxRecDepth 100000 in
set_option maxHeartbeats 4000000 in
theorem p288_j109_w (F : Nat) (K7 : HS → Int32 → Int64 → Int32 → Option (Int32 × HS)) (hK7 : ∀ (h : HS) (w : WF h) (u1 : Int32) (u2 : Int64) (u4 : Int32) (r : Int32 × HS), K7 h u1 u2 u4 = some r → WF r.2) (h : HS) (w : WF h) (v4 : Int32) (v5 : Int64) (r : Int32 × HS) (hp : p288_j109 F K7 h v4 v5 = some r) : WF r.2 := by
  unfold p288_j109 at hp
  exact p288_j115_w F (K7) (hK7) (h) (w) (v4) (v5) (v4) _ hp
set_option maxRecDepth 100000 in
set_option maxHeartbeats 4000000 in
theorem p288_j185_ok (d : Nat) (F : Nat) (K143 : HS → Int32 → Int32 → Int32 → Option (Int32 × HS)) (hK143 : ∀ (h : HS) (w : WF h) (u1 : Int32) (u4 : Int32) (u5 : Int32) (r : Int32 × HS), K143 h u1 u4 u5 = some r → ex (d + 8) 288 (143, [some (.ref (86)), some (.int (u1)), none, none, some (.int (u4)), some (.int (u5)), none, none, none], [], h) = some (some (.int (r.1)), r.2)) (h : HS) (w : WF h) (v1 : Int32) (v4 : Int32) (v5 : Int32) (s0 : Int32) (r : Int32 × HS) (hp : p288_j185 F K143 h v1 v4 v5 s0 = some r) : ex (d + 8) 288 (185, [some (.ref (86)), some (.int (v1)), none, none, some (.int (v4)), some (.int (v5)), none, none, none], [.int (s0)], h) = some (some (.int (r.1)), r.2) := by
  unfold p288_j185 at hp
  refine e_istore (ls2 := [some (.ref (86)), some (.int (v1)), none, none, some (.int (v4)), some (.int (v5)), none, some (.int (s0)), none]) f288_185 (Nat.le_of_ble_eq_true rfl) rfl ?_
  refine e_sipush (v := 4000) f288_187 (by decide) ?_
  refine e_iload_n f288_190 rfl ?_
  refine e_imul f288_191 ?_
  refine e_bipush (v := 20) f288_192 (by decide) ?_
  refine e_iload f288_194 rfl ?_
  refine e_imul f288_196 ?_
  refine e_iadd f288_197 ?_
  refine e_iload f288_198 rfl ?_
  refine e_iadd f288_200 ?_
  refine e_istore (ls2 := [some (.ref (86)), some (.int (v1)), none, none, some (.int (v4)), some (.int (v5)), none, some (.int (s0)), some (.int ((((4000) * (v1)) + ((20) * (v4))) + (v5)))]) f288_201 (Nat.le_of_ble_eq_true rfl) rfl ?_
  refine e_aload_n f288_203 rfl ?_
  refine e_getR f288_204 (WF.t w 86 (by decide)) rfl (WF.r (q := 146) w 86 82 (by decide)) ?_
  refine e_iload f288_207 rfl ?_
  refine e_iload f288_209 rfl ?_
  refine e_aload_n f288_211 rfl ?_
  refine e_getR f288_212 (WF.t w 86 (by decide)) rfl (WF.r (q := 146) w 86 82 (by decide)) ?_
  refine e_iload f288_215 rfl ?_
  by_cases hg29 : ((((4000) * (v1)) + ((20) * (v4))) + (v5)) < (0 : Int32) ∨ 120000 ≤ ((((4000) * (v1)) + ((20) * (v4))) + (v5)).toNatClampNeg
  · rw [if_pos hg29] at hp; cases hp
  rw [if_neg hg29] at hp
  refine e_baload f288_217 (Or.inl (WF.t w 146 (by decide))) (WF.n w 146 (by decide)) hg29 ?_
  by_cases hc30 : (hI (h) (146) ((((4000) * (v1)) + ((20) * (v4))) + (v5)).toNatClampNeg) < ((s0) : Int32)
  · rw [if_pos hc30] at hp
    refine e_icmp_le_f f288_218 hc30 ?_
    refine e_iload f288_221 rfl ?_
    refine e_goto f288_223 ?_
    refine ex_weak (ls := [some (.ref (86)), some (.int (v1)), none, none, some (.int (v4)), some (.int (v5)), none, none, none]) (le2_ok ⟨Or.inr rfl, Or.inr rfl, Or.inl rfl, Or.inl rfl, Or.inr rfl, Or.inr rfl, Or.inl rfl, Or.inl rfl, Or.inl rfl, trivial⟩) ?_
    exact p288_j233_ok d F (K143) (hK143) (h) (w) (v1) (v4) (v5) (s0) ((((4000) * (v1)) + ((20) * (v4))) + (v5)) _ hp
  · rw [if_neg hc30] at hp
    refine e_icmp_le_t f288_218 hc30 ?_
    refine e_aload_n f288_226 rfl ?_
    refine e_getR f288_227 (WF.t w 86 (by decide)) rfl (WF.r (q := 146) w 86 82 (by decide)) ?_
    refine e_iload f288_230 rfl ?_
    by_cases hg31 : ((((4000) * (v1)) + ((20) * (v4))) + (v5)) < (0 : Int32) ∨ 120000 ≤ ((((4000) * (v1)) + ((20) * (v4))) + (v5)).toNatClampNeg
    · rw [if_pos hg31] at hp; cases hp
    rw [if_neg hg31] at hp
    refine e_baload f288_232 (Or.inl (WF.t w 146 (by decide))) (WF.n w 146 (by decide)) hg31 ?_
    refine ex_weak (ls := [some (.ref (86)), some (.int (v1)), none, none, some (.int (v4)), some (.int (v5)), none, none, none]) (le2_ok ⟨Or.inr rfl, Or.inr rfl, Or.inl rfl, Or.inl rfl, Or.inr rfl, Or.inr rfl, Or.inl rfl, Or.inl rfl, Or.inl rfl, trivial⟩) ?_
    exact p288_j233_ok d F (K143) (hK143) (h) (w) (v1) (v4) (v5) (hI (h) (146) ((((4000) * (v1)) + ((20) * (v4))) + (v5)).toNatClampNeg) ((((4000) * (v1)) + ((20) * (v4))) + (v5)) _ hp
set_option maxRecDepth 100000 in
set_option maxHeartbeats 4000000 in
theorem p288_j185_w (F : Nat) (K143 : HS → Int32 → Int32 → Int32 → Option (Int32 × HS)) (hK143 : ∀ (h : HS) (w : WF h) (u1 : Int32) (u4 : Int32) (u5 : Int32) (r : Int32 × HS), K143 h u1 u4 u5 = some r → WF r.2) (h : HS) (w : WF h) (v1 : Int32) (v4 : Int32) (v5 : Int32) (s0 : Int32) (r : Int32 × HS) (hp : p288_j185 F K143 h v1 v4 v5 s0 = some r) : WF r.2 := by
  unfold p288_j185 at hp
  by_cases hg29 : ((((4000) * (v1)) + ((20) * (v4))) + (v5)) < (0 : Int32) ∨ 120000 ≤ ((((4000) * (v1)) + ((20) * (v4))) + (v5)).toNatClampNeg
  · rw [if_pos hg29] at hp; cases hp
  rw [if_neg hg29] at hp
  by_cases hc30 : (hI (h) (146) ((((4000) * (v1)) + ((20) * (v4))) + (v5)).toNatClampNeg) < ((s0) : Int32)
  · rw [if_pos hc30] at hp
    exact p288_j233_w F (K143) (hK143) (h) (w) (v1) (v4) (v5) (s0) ((((4000) * (v1)) + ((20) * (v4))) + (v5)) _ hp
  · rw [if_neg hc30] at hp
    by_cases hg31 : ((((4000) * (v1)) + ((20) * (v4))) + (v5)) < (0 : Int32) ∨ 120000 ≤ ((((4000) * (v1)) + ((20) * (v4))) + (v5)).toNatClampNeg
    · rw [if_pos hg31] at hp; cases hp
    rw [if_neg hg31] at hp
    exact p288_j233_w F (K143) (hK143) (h) (w) (v1) (v4) (v5) (hI (h) (146) ((((4000) * (v1)) + ((20) * (v4))) + (v5)).toNatClampNeg) ((((4000) * (v1)) + ((20) * (v4))) + (v5)) _ hp
set_option maxRecDepth 100000 in
set_option maxHeartbeats 4000000 in
theorem p288_L143_ok (d : Nat) (F : Nat) : ∀ (n : Nat) (h : HS) (w : WF h) (v1 : Int32) (v4 : Int32) (v5 : Int32) (r : Int32 × HS), p288_L143 F n h v1 v4 v5 = some r → ex (d + 8) 288 (143, [some (.ref (86)), some (.int (v1)), none, none, some (.int (v4)), some (.int (v5)), none, none, none], [], h) = some (some (.int (r.1)), r.2) := by
  intro n
  induction n with
  | zero => intro h w v1 v4 v5 r hp; cases hp
  | succ n ih =>
    intro h w v1 v4 v5 r hp
    unfold p288_L143 at hp
    refine e_iload f288_143 rfl ?_
    refine e_aload_n f288_145 rfl ?_
    refine e_getR f288_146 (WF.t w 86 (by decide)) rfl (WF.r (q := 99) w 86 19 (by decide)) ?_
    refine e_iload f288_149 rfl ?_
    by_cases hg22 : (v4) < (0 : Int32) ∨ 200 ≤ (v4).toNatClampNeg
    · rw [if_pos hg22] at hp; cases hp
    rw [if_neg hg22] at hp
    refine e_iaload f288_151 (Or.inl (WF.t w 99 (by decide))) (WF.n w 99 (by decide)) hg22 ?_
    by_cases hc23 : (v5) < ((hI (h) (99) (v4).toNatClampNeg) : Int32)
    · rw [if_pos hc23] at hp
      refine e_icmp_ge_f f288_152 hc23 ?_
      refine e_aload_n f288_155 rfl ?_
      refine e_iload_n f288_156 rfl ?_
      refine e_iload f288_157 rfl ?_
      refine e_iload f288_159 rfl ?_
      obtain ⟨r24, hr25, hp⟩ := bind_some hp
      try dsimp only at hp
      refine e_callV (st := []) (o := 86) (as := [.int (v1), .int (v4), .int (v5)]) f288_161 (by decide) rfl rfl (Nat.le_of_ble_eq_true rfl) (WF.t w 86 (by decide)) (Nat.le_of_ble_eq_true rfl) (p281_ok (d + 3) F (h) w (v1) (v4) (v5) r24 hr25) ?_
      show ex _ 288 (164, [some (.ref (86)), some (.int (v1)), none, none, some (.int (v4)), some (.int (v5)), none, none, none], [.int (r24.1)], r24.2) = _
      refine e_istore (ls2 := [some (.ref (86)), some (.int (v1)), none, none, some (.int (v4)), some (.int (v5)), some (.int (r24.1)), none, none]) f288_164 (Nat.le_of_ble_eq_true rfl) rfl ?_
      refine e_iload f288_166 rfl ?_
      refine e_iconst (v := -1) f288_168 (by decide) ?_
      by_cases hc26 : (r24.1) = (((-1)) : Int32)
      · rw [if_pos hc26] at hp
        refine e_icmp_ne_f f288_169 hc26 ?_
        refine e_iconst (v := 0) f288_172 (by decide) ?_
        refine e_goto f288_173 ?_
        refine ex_weak (ls := [some (.ref (86)), some (.int (v1)), none, none, some (.int (v4)), some (.int (v5)), none, none, none]) (le2_ok ⟨Or.inr rfl, Or.inr rfl, Or.inl rfl, Or.inl rfl, Or.inr rfl, Or.inr rfl, Or.inl rfl, Or.inl rfl, Or.inl rfl, trivial⟩) ?_
        exact p288_j185_ok d F ((p288_L143 F n)) (ih) (r24.2) ((p281_w F (h) w (v1) (v4) (v5)  r24 hr25)) (v1) (v4) (v5) (0) _ hp
      · rw [if_neg hc26] at hp
        refine e_icmp_ne_t f288_169 hc26 ?_
        refine e_iconst (v := 2) f288_176 (by decide) ?_
        refine e_aload_n f288_177 rfl ?_
        refine e_getR f288_178 (WF.t (p281_w F (h) w (v1) (v4) (v5)  r24 hr25) 86 (by decide)) rfl (WF.r (q := 130) (p281_w F (h) w (v1) (v4) (v5)  r24 hr25) 86 62 (by decide)) ?_
        refine e_iload f288_181 rfl ?_
        by_cases hg27 : (r24.1) < (0 : Int32) ∨ 240 ≤ (r24.1).toNatClampNeg
        · rw [if_pos hg27] at hp; cases hp
        rw [if_neg hg27] at hp
        refine e_iaload f288_183 (Or.inl (WF.t (p281_w F (h) w (v1) (v4) (v5)  r24 hr25) 130 (by decide))) (WF.n (p281_w F (h) w (v1) (v4) (v5)  r24 hr25) 130 (by decide)) hg27 ?_
        refine e_isub f288_184 ?_
        refine ex_weak (ls := [some (.ref (86)), some (.int (v1)), none, none, some (.int (v4)), some (.int (v5)), none, none, none]) (le2_ok ⟨Or.inr rfl, Or.inr rfl, Or.inl rfl, Or.inl rfl, Or.inr rfl, Or.inr rfl, Or.inl rfl, Or.inl rfl, Or.inl rfl, trivial⟩) ?_
        exact p288_j185_ok d F ((p288_L143 F n)) (ih) (r24.2) ((p281_w F (h) w (v1) (v4) (v5)  r24 hr25)) (v1) (v4) (v5) ((2) - (hI (r24.2) (130) (r24.1).toNatClampNeg)) _ hp
    · rw [if_neg hc23] at hp
      refine e_icmp_ge_t f288_152 hc23 ?_
      refine e_aload_n f288_241 rfl ?_
      refine e_getR f288_242 (WF.t w 86 (by decide)) rfl (WF.r (q := 142) w 86 78 (by decide)) ?_
      refine e_iload_n f288_245 rfl ?_
      refine e_iconst (v := -1) f288_246 (by decide) ?_
      by_cases hg28 : (v1) < (0 : Int32) ∨ 30 ≤ (v1).toNatClampNeg
      · rw [if_pos hg28] at hp; cases hp
      rw [if_neg hg28] at hp
      refine e_iastore f288_247 (WF.t w 142 (by decide)) (WF.n w 142 (by decide)) hg28 ?_
      refine e_iload_n f288_248 rfl ?_
      have hp := Option.some.inj hp
      subst hp
      exact e_ireturn f288_249 (Or.inl rfl)
set_option maxRecDepth 100000 in
set_option maxHeartbeats 4000000 in
theorem p288_L143_w (F : Nat) : ∀ (n : Nat) (h : HS) (w : WF h) (v1 : Int32) (v4 : Int32) (v5 : Int32) (r : Int32 × HS), p288_L143 F n h v1 v4 v5 = some r → WF r.2 := by
  intro n
  induction n with
  | zero => intro h w v1 v4 v5 r hp; cases hp
  | succ n ih =>
    intro h w v1 v4 v5 r hp
    unfold p288_L143 at hp
    by_cases hg22 : (v4) < (0 : Int32) ∨ 200 ≤ (v4).toNatClampNeg
    · rw [if_pos hg22] at hp; cases hp
    rw [if_neg hg22] at hp
    by_cases hc23 : (v5) < ((hI (h) (99) (v4).toNatClampNeg) : Int32)
    · rw [if_pos hc23] at hp
      obtain ⟨r24, hr25, hp⟩ := bind_some hp
      try dsimp only at hp
      by_cases hc26 : (r24.1) = (((-1)) : Int32)
      · rw [if_pos hc26] at hp
        exact p288_j185_w F ((p288_L143 F n)) (ih) (r24.2) ((p281_w F (h) w (v1) (v4) (v5)  r24 hr25)) (v1) (v4) (v5) (0) _ hp
      · rw [if_neg hc26] at hp
        by_cases hg27 : (r24.1) < (0 : Int32) ∨ 240 ≤ (r24.1).toNatClampNeg
        · rw [if_pos hg27] at hp; cases hp
        rw [if_neg hg27] at hp
        exact p288_j185_w F ((p288_L143 F n)) (ih) (r24.2) ((p281_w F (h) w (v1) (v4) (v5)  r24 hr25)) (v1) (v4) (v5) ((2) - (hI (r24.2) (130) (r24.1).toNatClampNeg)) _ hp
    · rw [if_neg hc23] at hp
      by_cases hg28 : (v1) < (0 : Int32) ∨ 30 ≤ (v1).toNatClampNeg
      · rw [if_pos hg28] at hp; cases hp
      rw [if_neg hg28] at hp
      have hp := Option.some.inj hp
      subst hp
      exact (w)
set_option maxRecDepth 100000 in
set_option maxHeartbeats 4000000 in
theorem p288_L7_ok (d : Nat) (F : Nat) : ∀ (n : Nat) (h : HS) (w : WF h) (v1 : Int32) (v2 : Int64) (v4 : Int32) (r : Int32 × HS), p288_L7 F n h v1 v2 v4 = some r → ex (d + 8) 288 (7, [some (.ref (86)), some (.int (v1)), some (.long (v2)), none, some (.int (v4)), none, none, none, none], [], h) = some (some (.int (r.1)), r.2) := by
  intro n
  induction n with
  | zero => intro h w v1 v2 v4 r hp; cases hp
  | succ n ih =>
    intro h w v1 v2 v4 r hp
    unfold p288_L7 at hp
    refine e_iload f288_7 rfl ?_
    refine e_aload_n f288_9 rfl ?_
    refine e_getI f288_10 (WF.t w 86 (by decide)) (by decide) ?_
    by_cases hc1 : (v4) < ((hI (h) (86) 72) : Int32)
    · rw [if_pos hc1] at hp
      refine e_icmp_ge_f f288_13 hc1 ?_
      refine e_aload_n f288_16 rfl ?_
      refine e_getR f288_17 (WF.t w 86 (by decide)) rfl (WF.r (q := 142) w 86 78 (by decide)) ?_
      refine e_iload f288_20 rfl ?_
      by_cases hg2 : (v4) < (0 : Int32) ∨ 30 ≤ (v4).toNatClampNeg
      · rw [if_pos hg2] at hp; cases hp
      rw [if_neg hg2] at hp
      refine e_iaload f288_22 (Or.inl (WF.t w 142 (by decide))) (WF.n w 142 (by decide)) hg2 ?_
      refine e_iconst (v := -1) f288_23 (by decide) ?_
      by_cases hc3 : (hI (h) (142) (v4).toNatClampNeg) = (((-1)) : Int32)
      · rw [if_pos hc3] at hp
        refine e_icmp_eq_t f288_24 hc3 ?_
        refine ex_weak (ls := [some (.ref (86)), some (.int (v1)), some (.long (v2)), none, some (.int (v4)), none, none, none, none]) (le2_ok ⟨Or.inr rfl, Or.inr rfl, Or.inr rfl, Or.inl rfl, Or.inr rfl, Or.inl rfl, Or.inl rfl, Or.inl rfl, Or.inl rfl, trivial⟩) ?_
        exact p288_j115_ok d F ((p288_L7 F n)) (ih) (h) (w) (v1) (v2) (v4) _ hp
      · rw [if_neg hc3] at hp
        refine e_icmp_eq_f f288_24 hc3 ?_
        refine e_aload_n f288_27 rfl ?_
        refine e_getR f288_28 (WF.t w 86 (by decide)) rfl (WF.r (q := 96) w 86 16 (by decide)) ?_
        refine e_aload_n f288_31 rfl ?_
        refine e_getR f288_32 (WF.t w 86 (by decide)) rfl (WF.r (q := 142) w 86 78 (by decide)) ?_
        refine e_iload f288_35 rfl ?_
        by_cases hg4 : (v4) < (0 : Int32) ∨ 30 ≤ (v4).toNatClampNeg
        · rw [if_pos hg4] at hp; cases hp
        rw [if_neg hg4] at hp
        refine e_iaload f288_37 (Or.inl (WF.t w 142 (by decide))) (WF.n w 142 (by decide)) hg4 ?_
        by_cases hg5 : (hI (h) (142) (v4).toNatClampNeg) < (0 : Int32) ∨ 200 ≤ (hI (h) (142) (v4).toNatClampNeg).toNatClampNeg
        · rw [if_pos hg5] at hp; cases hp
        rw [if_neg hg5] at hp
        refine e_iaload f288_38 (Or.inl (WF.t w 96 (by decide))) (WF.n w 96 (by decide)) hg5 ?_
        refine e_ldcw (v := 100000) f288_39 (by decide) (by decide) ?_
        by_cases hc6 : (hI (h) (96) (hI (h) (142) (v4).toNatClampNeg).toNatClampNeg) = ((100000) : Int32)
        · rw [if_pos hc6] at hp
          refine e_icmp_eq_t f288_42 hc6 ?_
          refine ex_weak (ls := [some (.ref (86)), some (.int (v1)), some (.long (v2)), none, some (.int (v4)), none, none, none, none]) (le2_ok ⟨Or.inr rfl, Or.inr rfl, Or.inr rfl, Or.inl rfl, Or.inr rfl, Or.inl rfl, Or.inl rfl, Or.inl rfl, Or.inl rfl, trivial⟩) ?_
          exact p288_j115_ok d F ((p288_L7 F n)) (ih) (h) (w) (v1) (v2) (v4) _ hp
        · rw [if_neg hc6] at hp
          refine e_icmp_eq_f f288_42 hc6 ?_
          refine e_aload_n f288_45 rfl ?_
          refine e_getR f288_46 (WF.t w 86 (by decide)) rfl (WF.r (q := 97) w 86 17 (by decide)) ?_
          refine e_aload_n f288_49 rfl ?_
          refine e_getR f288_50 (WF.t w 86 (by decide)) rfl (WF.r (q := 142) w 86 78 (by decide)) ?_
          refine e_iload f288_53 rfl ?_
          by_cases hg7 : (v4) < (0 : Int32) ∨ 30 ≤ (v4).toNatClampNeg
          · rw [if_pos hg7] at hp; cases hp
          rw [if_neg hg7] at hp
          refine e_iaload f288_55 (Or.inl (WF.t w 142 (by decide))) (WF.n w 142 (by decide)) hg7 ?_
          by_cases hg8 : (hI (h) (142) (v4).toNatClampNeg) < (0 : Int32) ∨ 200 ≤ (hI (h) (142) (v4).toNatClampNeg).toNatClampNeg
          · rw [if_pos hg8] at hp; cases hp
          rw [if_neg hg8] at hp
          refine e_iaload f288_56 (Or.inl (WF.t w 97 (by decide))) (WF.n w 97 (by decide)) hg8 ?_
          refine e_ldcw (v := 100000) f288_57 (by decide) (by decide) ?_
          by_cases hc9 : (hI (h) (97) (hI (h) (142) (v4).toNatClampNeg).toNatClampNeg) = ((100000) : Int32)
          · rw [if_pos hc9] at hp
            refine e_icmp_eq_t f288_60 hc9 ?_
            refine e_aload_n f288_66 rfl ?_
            refine e_iload f288_67 rfl ?_
            obtain ⟨r10, hr11, hp⟩ := bind_some hp
            try dsimp only at hp
            refine e_callV (st := []) (o := 86) (as := [.int (v4)]) f288_69 (by decide) rfl rfl (Nat.le_of_ble_eq_true rfl) (WF.t w 86 (by decide)) (Nat.le_of_ble_eq_true rfl) (p286_ok (d + 3) F (h) w (v4) r10 hr11) ?_
            show ex _ 288 (72, [some (.ref (86)), some (.int (v1)), some (.long (v2)), none, some (.int (v4)), none, none, none, none], [.long (r10.1)], r10.2) = _
            refine e_lstore (ls2 := [some (.ref (86)), some (.int (v1)), some (.long (v2)), none, some (.int (v4)), some (.long (r10.1)), none, none, none]) f288_72 (Nat.le_of_ble_eq_true rfl) rfl ?_
            refine e_iload_n f288_74 rfl ?_
            refine e_iconst (v := -1) f288_75 (by decide) ?_
            by_cases hc12 : (v1) = (((-1)) : Int32)
            · rw [if_pos hc12] at hp
              refine e_icmp_eq_t f288_76 hc12 ?_
              refine ex_weak (ls := [some (.ref (86)), none, none, none, some (.int (v4)), some (.long (r10.1)), none, none, none]) (le2_ok ⟨Or.inr rfl, Or.inl rfl, Or.inl rfl, Or.inl rfl, Or.inr rfl, Or.inr rfl, Or.inl rfl, Or.inl rfl, Or.inl rfl, trivial⟩) ?_
              exact p288_j109_ok d F ((p288_L7 F n)) (ih) (r10.2) ((p286_w F (h) w (v4)  r10 hr11)) (v4) (r10.1) _ hp
            · rw [if_neg hc12] at hp
              refine e_icmp_eq_f f288_76 hc12 ?_
              refine e_lload f288_79 rfl ?_
              refine e_lload_n f288_81 rfl ?_
              refine e_lcmp f288_82 ?_
              by_cases hc13 : (0 : Int32) < (lg_cmp (r10.1) (v2))
              · rw [if_pos hc13] at hp
                refine e_if_gt_t f288_83 hc13 ?_
                refine ex_weak (ls := [some (.ref (86)), none, none, none, some (.int (v4)), some (.long (r10.1)), none, none, none]) (le2_ok ⟨Or.inr rfl, Or.inl rfl, Or.inl rfl, Or.inl rfl, Or.inr rfl, Or.inr rfl, Or.inl rfl, Or.inl rfl, Or.inl rfl, trivial⟩) ?_
                exact p288_j109_ok d F ((p288_L7 F n)) (ih) (r10.2) ((p286_w F (h) w (v4)  r10 hr11)) (v4) (r10.1) _ hp
              · rw [if_neg hc13] at hp
                refine e_if_gt_f f288_83 hc13 ?_
                refine e_lload f288_86 rfl ?_
                refine e_lload_n f288_88 rfl ?_
                refine e_lcmp f288_89 ?_
                by_cases hc14 : (lg_cmp (r10.1) (v2)) = (0 : Int32)
                · rw [if_pos hc14] at hp
                  refine e_if_ne_f f288_90 hc14 ?_
                  refine e_aload_n f288_93 rfl ?_
                  refine e_getR f288_94 (WF.t (p286_w F (h) w (v4)  r10 hr11) 86 (by decide)) rfl (WF.r (q := 143) (p286_w F (h) w (v4)  r10 hr11) 86 79 (by decide)) ?_
                  refine e_iload f288_97 rfl ?_
                  by_cases hg15 : (v4) < (0 : Int32) ∨ 30 ≤ (v4).toNatClampNeg
                  · rw [if_pos hg15] at hp; cases hp
                  rw [if_neg hg15] at hp
                  refine e_iaload f288_99 (Or.inl (WF.t (p286_w F (h) w (v4)  r10 hr11) 143 (by decide))) (WF.n (p286_w F (h) w (v4)  r10 hr11) 143 (by decide)) hg15 ?_
                  refine e_aload_n f288_100 rfl ?_
                  refine e_getR f288_101 (WF.t (p286_w F (h) w (v4)  r10 hr11) 86 (by decide)) rfl (WF.r (q := 143) (p286_w F (h) w (v4)  r10 hr11) 86 79 (by decide)) ?_
                  refine e_iload_n f288_104 rfl ?_
                  by_cases hg16 : (v1) < (0 : Int32) ∨ 30 ≤ (v1).toNatClampNeg
                  · rw [if_pos hg16] at hp; cases hp
                  rw [if_neg hg16] at hp
                  refine e_iaload f288_105 (Or.inl (WF.t (p286_w F (h) w (v4)  r10 hr11) 143 (by decide))) (WF.n (p286_w F (h) w (v4)  r10 hr11) 143 (by decide)) hg16 ?_
                  by_cases hc17 : (hI (r10.2) (143) (v4).toNatClampNeg) < ((hI (r10.2) (143) (v1).toNatClampNeg) : Int32)
                  · rw [if_pos hc17] at hp
                    refine e_icmp_ge_f f288_106 hc17 ?_
                    refine ex_weak (ls := [some (.ref (86)), none, none, none, some (.int (v4)), some (.long (r10.1)), none, none, none]) (le2_ok ⟨Or.inr rfl, Or.inl rfl, Or.inl rfl, Or.inl rfl, Or.inr rfl, Or.inr rfl, Or.inl rfl, Or.inl rfl, Or.inl rfl, trivial⟩) ?_
                    exact p288_j109_ok d F ((p288_L7 F n)) (ih) (r10.2) ((p286_w F (h) w (v4)  r10 hr11)) (v4) (r10.1) _ hp
                  · rw [if_neg hc17] at hp
                    refine e_icmp_ge_t f288_106 hc17 ?_
                    refine ex_weak (ls := [some (.ref (86)), some (.int (v1)), some (.long (v2)), none, some (.int (v4)), none, none, none, none]) (le2_ok ⟨Or.inr rfl, Or.inr rfl, Or.inr rfl, Or.inl rfl, Or.inr rfl, Or.inl rfl, Or.inl rfl, Or.inl rfl, Or.inl rfl, trivial⟩) ?_
                    exact p288_j115_ok d F ((p288_L7 F n)) (ih) (r10.2) ((p286_w F (h) w (v4)  r10 hr11)) (v1) (v2) (v4) _ hp
                · rw [if_neg hc14] at hp
                  refine e_if_ne_t f288_90 hc14 ?_
                  refine ex_weak (ls := [some (.ref (86)), some (.int (v1)), some (.long (v2)), none, some (.int (v4)), none, none, none, none]) (le2_ok ⟨Or.inr rfl, Or.inr rfl, Or.inr rfl, Or.inl rfl, Or.inr rfl, Or.inl rfl, Or.inl rfl, Or.inl rfl, Or.inl rfl, trivial⟩) ?_
                  exact p288_j115_ok d F ((p288_L7 F n)) (ih) (r10.2) ((p286_w F (h) w (v4)  r10 hr11)) (v1) (v2) (v4) _ hp
          · rw [if_neg hc9] at hp
            refine e_icmp_eq_f f288_60 hc9 ?_
            refine e_goto f288_63 ?_
            refine ex_weak (ls := [some (.ref (86)), some (.int (v1)), some (.long (v2)), none, some (.int (v4)), none, none, none, none]) (le2_ok ⟨Or.inr rfl, Or.inr rfl, Or.inr rfl, Or.inl rfl, Or.inr rfl, Or.inl rfl, Or.inl rfl, Or.inl rfl, Or.inl rfl, trivial⟩) ?_
            exact p288_j115_ok d F ((p288_L7 F n)) (ih) (h) (w) (v1) (v2) (v4) _ hp
    · rw [if_neg hc1] at hp
      refine e_icmp_ge_t f288_13 hc1 ?_
      refine e_iload_n f288_121 rfl ?_
      refine e_iconst (v := -1) f288_122 (by decide) ?_
      by_cases hc18 : (v1) = (((-1)) : Int32)
      · rw [if_pos hc18] at hp
        refine e_icmp_ne_f f288_123 hc18 ?_
        refine e_iconst (v := -1) f288_126 (by decide) ?_
        have hp := Option.some.inj hp
        subst hp
        exact e_ireturn f288_127 (Or.inl rfl)
      · rw [if_neg hc18] at hp
        refine e_icmp_ne_t f288_123 hc18 ?_
        refine e_aload_n f288_128 rfl ?_
        refine e_getR f288_129 (WF.t w 86 (by decide)) rfl (WF.r (q := 142) w 86 78 (by decide)) ?_
        refine e_iload_n f288_132 rfl ?_
        by_cases hg19 : (v1) < (0 : Int32) ∨ 30 ≤ (v1).toNatClampNeg
        · rw [if_pos hg19] at hp; cases hp
        rw [if_neg hg19] at hp
        refine e_iaload f288_133 (Or.inl (WF.t w 142 (by decide))) (WF.n w 142 (by decide)) hg19 ?_
        refine e_istore (ls2 := [some (.ref (86)), some (.int (v1)), some (.long (v2)), none, some (.int (hI (h) (142) (v1).toNatClampNeg)), none, none, none, none]) f288_134 (Nat.le_of_ble_eq_true rfl) rfl ?_
        refine e_aload_n f288_136 rfl ?_
        obtain ⟨r20, hr21, hp⟩ := bind_some hp
        try dsimp only at hp
        refine e_callV (st := []) (o := 86) (as := []) f288_137 (by decide) rfl rfl (Nat.le_of_ble_eq_true rfl) (WF.t w 86 (by decide)) (Nat.le_of_ble_eq_true rfl) (p278_ok d F (h) w r20 hr21) ?_
        show ex _ 288 (140, [some (.ref (86)), some (.int (v1)), some (.long (v2)), none, some (.int (hI (h) (142) (v1).toNatClampNeg)), none, none, none, none], [], r20) = _
        refine e_iconst (v := 0) f288_140 (by decide) ?_
        refine e_istore (ls2 := [some (.ref (86)), some (.int (v1)), some (.long (v2)), none, some (.int (hI (h) (142) (v1).toNatClampNeg)), some (.int (0)), none, none, none]) f288_141 (Nat.le_of_ble_eq_true rfl) rfl ?_
        refine ex_weak (ls := [some (.ref (86)), some (.int (v1)), none, none, some (.int (hI (h) (142) (v1).toNatClampNeg)), some (.int (0)), none, none, none]) (le2_ok ⟨Or.inr rfl, Or.inr rfl, Or.inl rfl, Or.inl rfl, Or.inr rfl, Or.inr rfl, Or.inl rfl, Or.inl rfl, Or.inl rfl, trivial⟩) ?_
        exact p288_L143_ok d F F (r20) ((p278_w F (h) w  r20 hr21)) (v1) (hI (h) (142) (v1).toNatClampNeg) (0) _ hp
set_option maxRecDepth 100000 in
set_option maxHeartbeats 4000000 in
theorem p288_L7_w (F : Nat) : ∀ (n : Nat) (h : HS) (w : WF h) (v1 : Int32) (v2 : Int64) (v4 : Int32) (r : Int32 × HS), p288_L7 F n h v1 v2 v4 = some r → WF r.2 := by
  intro n
  induction n with
  | zero => intro h w v1 v2 v4 r hp; cases hp
  | succ n ih =>
    intro h w v1 v2 v4 r hp
    unfold p288_L7 at hp
    by_cases hc1 : (v4) < ((hI (h) (86) 72) : Int32)
    · rw [if_pos hc1] at hp
      by_cases hg2 : (v4) < (0 : Int32) ∨ 30 ≤ (v4).toNatClampNeg
      · rw [if_pos hg2] at hp; cases hp
      rw [if_neg hg2] at hp
      by_cases hc3 : (hI (h) (142) (v4).toNatClampNeg) = (((-1)) : Int32)
      · rw [if_pos hc3] at hp
        exact p288_j115_w F ((p288_L7 F n)) (ih) (h) (w) (v1) (v2) (v4) _ hp
      · rw [if_neg hc3] at hp
        by_cases hg4 : (v4) < (0 : Int32) ∨ 30 ≤ (v4).toNatClampNeg
        · rw [if_pos hg4] at hp; cases hp
        rw [if_neg hg4] at hp
        by_cases hg5 : (hI (h) (142) (v4).toNatClampNeg) < (0 : Int32) ∨ 200 ≤ (hI (h) (142) (v4).toNatClampNeg).toNatClampNeg
        · rw [if_pos hg5] at hp; cases hp
        rw [if_neg hg5] at hp
        by_cases hc6 : (hI (h) (96) (hI (h) (142) (v4).toNatClampNeg).toNatClampNeg) = ((100000) : Int32)
        · rw [if_pos hc6] at hp
          exact p288_j115_w F ((p288_L7 F n)) (ih) (h) (w) (v1) (v2) (v4) _ hp
        · rw [if_neg hc6] at hp
          by_cases hg7 : (v4) < (0 : Int32) ∨ 30 ≤ (v4).toNatClampNeg
          · rw [if_pos hg7] at hp; cases hp
          rw [if_neg hg7] at hp
          by_cases hg8 : (hI (h) (142) (v4).toNatClampNeg) < (0 : Int32) ∨ 200 ≤ (hI (h) (142) (v4).toNatClampNeg).toNatClampNeg
          · rw [if_pos hg8] at hp; cases hp
          rw [if_neg hg8] at hp
          by_cases hc9 : (hI (h) (97) (hI (h) (142) (v4).toNatClampNeg).toNatClampNeg) = ((100000) : Int32)
          · rw [if_pos hc9] at hp
            obtain ⟨r10, hr11, hp⟩ := bind_some hp
            try dsimp only at hp
            by_cases hc12 : (v1) = (((-1)) : Int32)
            · rw [if_pos hc12] at hp
              exact p288_j109_w F ((p288_L7 F n)) (ih) (r10.2) ((p286_w F (h) w (v4)  r10 hr11)) (v4) (r10.1) _ hp
            · rw [if_neg hc12] at hp
              by_cases hc13 : (0 : Int32) < (lg_cmp (r10.1) (v2))
              · rw [if_pos hc13] at hp
                exact p288_j109_w F ((p288_L7 F n)) (ih) (r10.2) ((p286_w F (h) w (v4)  r10 hr11)) (v4) (r10.1) _ hp
              · rw [if_neg hc13] at hp
                by_cases hc14 : (lg_cmp (r10.1) (v2)) = (0 : Int32)
                · rw [if_pos hc14] at hp
                  by_cases hg15 : (v4) < (0 : Int32) ∨ 30 ≤ (v4).toNatClampNeg
                  · rw [if_pos hg15] at hp; cases hp
                  rw [if_neg hg15] at hp
                  by_cases hg16 : (v1) < (0 : Int32) ∨ 30 ≤ (v1).toNatClampNeg
                  · rw [if_pos hg16] at hp; cases hp
                  rw [if_neg hg16] at hp
                  by_cases hc17 : (hI (r10.2) (143) (v4).toNatClampNeg) < ((hI (r10.2) (143) (v1).toNatClampNeg) : Int32)
                  · rw [if_pos hc17] at hp
                    exact p288_j109_w F ((p288_L7 F n)) (ih) (r10.2) ((p286_w F (h) w (v4)  r10 hr11)) (v4) (r10.1) _ hp
                  · rw [if_neg hc17] at hp
                    exact p288_j115_w F ((p288_L7 F n)) (ih) (r10.2) ((p286_w F (h) w (v4)  r10 hr11)) (v1) (v2) (v4) _ hp
                · rw [if_neg hc14] at hp
                  exact p288_j115_w F ((p288_L7 F n)) (ih) (r10.2) ((p286_w F (h) w (v4)  r10 hr11)) (v1) (v2) (v4) _ hp
          · rw [if_neg hc9] at hp
            exact p288_j115_w F ((p288_L7 F n)) (ih) (h) (w) (v1) (v2) (v4) _ hp
    · rw [if_neg hc1] at hp
      by_cases hc18 : (v1) = (((-1)) : Int32)
      · rw [if_pos hc18] at hp
        have hp := Option.some.inj hp
        subst hp
        exact (w)
      · rw [if_neg hc18] at hp
        by_cases hg19 : (v1) < (0 : Int32) ∨ 30 ≤ (v1).toNatClampNeg
        · rw [if_pos hg19] at hp; cases hp
        rw [if_neg hg19] at hp
        obtain ⟨r20, hr21, hp⟩ := bind_some hp
        try dsimp only at hp
        exact p288_L143_w F F (r20) ((p278_w F (h) w  r20 hr21)) (v1) (hI (h) (142) (v1).toNatClampNeg) (0) _ hp
set_option maxRecDepth 100000 in
set_option maxHeartbeats 4000000 in
theorem p288_ok (d : Nat) (F : Nat) (h : HS) (w : WF h) (r : Int32 × HS) (hp : p288 F h = some r) : ex (d + 8) 288 (ent 288 [.ref (86)] h) = some (some (.int (r.1)), r.2) := by
  rw [show ent 288 [.ref (86)] h = (0, [some (.ref (86)), none, none, none, none, none, none, none, none], [], h) from by  rfl]
  refine ex_weak (ls := [some (.ref (86)), none, none, none, none, none, none, none, none]) (le2_ok ⟨Or.inr rfl, Or.inr rfl, Or.inr rfl, Or.inr rfl, Or.inr rfl, Or.inr rfl, Or.inr rfl, Or.inr rfl, Or.inr rfl, trivial⟩) ?_
  unfold p288 at hp
  refine e_iconst (v := -1) f288_0 (by decide) ?_
  refine e_istore_n (ls2 := [some (.ref (86)), some (.int ((-1))), none, none, none, none, none, none, none]) f288_1 (Nat.le_of_ble_eq_true rfl) rfl ?_
  refine e_lconst (v := 0) f288_2 (by decide) ?_
  refine e_lstore_n (ls2 := [some (.ref (86)), some (.int ((-1))), some (.long (0)), none, none, none, none, none, none]) f288_3 (Nat.le_of_ble_eq_true rfl) rfl ?_
  refine e_iconst (v := 0) f288_4 (by decide) ?_
  refine e_istore (ls2 := [some (.ref (86)), some (.int ((-1))), some (.long (0)), none, some (.int (0)), none, none, none, none]) f288_5 (Nat.le_of_ble_eq_true rfl) rfl ?_
  refine ex_weak (ls := [some (.ref (86)), some (.int ((-1))), some (.long (0)), none, some (.int (0)), none, none, none, none]) (le2_ok ⟨Or.inr rfl, Or.inr rfl, Or.inr rfl, Or.inl rfl, Or.inr rfl, Or.inl rfl, Or.inl rfl, Or.inl rfl, Or.inl rfl, trivial⟩) ?_
  exact p288_L7_ok d F F (h) (w) ((-1)) (0) (0) _ hp
set_option maxRecDepth 100000 in
set_option maxHeartbeats 4000000 in
theorem p288_w (F : Nat) (h : HS) (w : WF h) (r : Int32 × HS) (hp : p288 F h = some r) : WF r.2 := by
  unfold p288 at hp
  exact p288_L7_w F F (h) (w) ((-1)) (0) (0) _ hp
theorem f289_0 : fetch 289 0 = some (.aload_n 0, 0, 0, 0) := rfl
theorem f289_1 : fetch 289 1 = some (.iload_n 1, 0, 0, 0) := rfl
theorem f289_2 : fetch 289 2 = some (.invokevirtual 560, 277, 1, 0) := rfl
theorem f289_5 : fetch 289 5 = some (.ifCond .eq 12, 17, 0, 0) := rfl
theorem f289_8 : fetch 289 8 = some (.aload_n 0, 0, 0, 0) := rfl
theorem f289_9 : fetch 289 9 = some (.iload_n 2, 0, 0, 0) := rfl
theorem f289_10 : fetch 289 10 = some (.iload_n 3, 0, 0, 0) := rfl
theorem f289_11 : fetch 289 11 = some (.invokevirtual 563, 282, 2, 0) := rfl
theorem f289_14 : fetch 289 14 = some (.ifCond .ne 5, 19, 0, 0) := rfl
theorem f289_17 : fetch 289 17 = some (.iconst (-1), 0, 0, 0) := rfl
theorem f289_18 : fetch 289 18 = some (.ireturn, 0, 0, 0) := rfl
theorem f289_19 : fetch 289 19 = some (.aload_n 0, 0, 0, 0) := rfl
theorem f289_20 : fetch 289 20 = some (.getfield 195, 12, 82, 2) := rfl
theorem f289_23 : fetch 289 23 = some (.sipush 4000, 0, 0, 0) := rfl
theorem f289_26 : fetch 289 26 = some (.iload_n 1, 0, 0, 0) := rfl
theorem f289_27 : fetch 289 27 = some (.imul, 0, 0, 0) := rfl
theorem f289_28 : fetch 289 28 = some (.bipush 20, 0, 0, 0) := rfl
theorem f289_30 : fetch 289 30 = some (.iload_n 2, 0, 0, 0) := rfl
theorem f289_31 : fetch 289 31 = some (.imul, 0, 0, 0) := rfl
theorem f289_32 : fetch 289 32 = some (.iadd, 0, 0, 0) := rfl
theorem f289_33 : fetch 289 33 = some (.iload_n 3, 0, 0, 0) := rfl
theorem f289_34 : fetch 289 34 = some (.iadd, 0, 0, 0) := rfl
theorem f289_35 : fetch 289 35 = some (.baload, 0, 0, 0) := rfl
theorem f289_36 : fetch 289 36 = some (.istore 4, 0, 0, 0) := rfl
theorem f289_38 : fetch 289 38 = some (.iload 4, 0, 0, 0) := rfl
theorem f289_40 : fetch 289 40 = some (.iconst 2, 0, 0, 0) := rfl
theorem f289_41 : fetch 289 41 = some (.if_icmp .ne 17, 58, 0, 0) := rfl
theorem f289_44 : fetch 289 44 = some (.aload_n 0, 0, 0, 0) := rfl
theorem f289_45 : fetch 289 45 = some (.getfield 176, 12, 76, 2) := rfl
theorem f289_48 : fetch 289 48 = some (.bipush 20, 0, 0, 0) := rfl
theorem f289_50 : fetch 289 50 = some (.iload_n 2, 0, 0, 0) := rfl
theorem f289_51 : fetch 289 51 = some (.imul, 0, 0, 0) := rfl
theorem f289_52 : fetch 289 52 = some (.iload_n 3, 0, 0, 0) := rfl
theorem f289_53 : fetch 289 53 = some (.iadd, 0, 0, 0) := rfl
theorem f289_54 : fetch 289 54 = some (.iaload, 0, 0, 0) := rfl
theorem f289_55 : fetch 289 55 = some (.goto 27, 82, 0, 0) := rfl
theorem f289_58 : fetch 289 58 = some (.iload 4, 0, 0, 0) := rfl
theorem f289_60 : fetch 289 60 = some (.iconst 1, 0, 0, 0) := rfl
theorem f289_61 : fetch 289 61 = some (.if_icmp .ne 20, 81, 0, 0) := rfl
theorem f289_64 : fetch 289 64 = some (.bipush (-2), 0, 0, 0) := rfl
theorem f289_66 : fetch 289 66 = some (.aload_n 0, 0, 0, 0) := rfl
theorem f289_67 : fetch 289 67 = some (.getfield 173, 12, 75, 2) := rfl
theorem f289_70 : fetch 289 70 = some (.bipush 20, 0, 0, 0) := rfl
theorem f289_72 : fetch 289 72 = some (.iload_n 2, 0, 0, 0) := rfl
theorem f289_73 : fetch 289 73 = some (.imul, 0, 0, 0) := rfl
theorem f289_74 : fetch 289 74 = some (.iload_n 3, 0, 0, 0) := rfl
theorem f289_75 : fetch 289 75 = some (.iadd, 0, 0, 0) := rfl
theorem f289_76 : fetch 289 76 = some (.iaload, 0, 0, 0) := rfl
theorem f289_77 : fetch 289 77 = some (.isub, 0, 0, 0) := rfl
theorem f289_78 : fetch 289 78 = some (.goto 4, 82, 0, 0) := rfl
theorem f289_81 : fetch 289 81 = some (.iconst (-1), 0, 0, 0) := rfl
theorem f289_82 : fetch 289 82 = some (.ireturn, 0, 0, 0) := rfl
set_option maxRecDepth 100000 in
set_option maxHeartbeats 4000000 in
theorem p289_ok (d : Nat) (h : HS) (w : WF h) (a0 : Int32) (a1 : Int32) (a2 : Int32) (r : Int32) (hp : p289 h a0 a1 a2 = some r) : ex (d + 3) 289 (ent 289 [.ref (86), .int (a0), .int (a1), .int (a2)] h) = some (some (.int (r)), h) := by
  rw [show ent 289 [.ref (86), .int (a0), .int (a1), .int (a2)] h = (0, [some (.ref (86)), some (.int (a0)), some (.int (a1)), some (.int (a2)), none], [], h) from by  rfl]
  refine ex_weak (ls := [some (.ref (86)), some (.int (a0)), some (.int (a1)), some (.int (a2)), none]) (le2_ok ⟨Or.inr rfl, Or.inr rfl, Or.inr rfl, Or.inr rfl, Or.inr rfl, trivial⟩) ?_
  unfold p289 at hp
  refine e_aload_n f289_0 rfl ?_
  refine e_iload_n f289_1 rfl ?_
  obtain ⟨r1, hr2, hp⟩ := bind_some hp
  try dsimp only at hp
  refine e_callV (st := []) (o := 86) (as := [.int (a0)]) f289_2 (by decide) rfl rfl (Nat.le_of_ble_eq_true rfl) (WF.t w 86 (by decide)) (Nat.le_of_ble_eq_true rfl) (p277_ok (d + 1) (h) w (a0) r1 hr2) ?_
  show ex _ 289 (5, [some (.ref (86)), some (.int (a0)), some (.int (a1)), some (.int (a2)), none], [.int (r1)], h) = _
  by_cases hc3 : (r1) = (0 : Int32)
  · rw [if_pos hc3] at hp
    refine e_if_eq_t f289_5 hc3 ?_
    refine e_iconst (v := -1) f289_17 (by decide) ?_
    have hp := Option.some.inj hp
    subst hp
    exact e_ireturn f289_18 (Or.inl rfl)
  · rw [if_neg hc3] at hp
    refine e_if_eq_f f289_5 hc3 ?_
    refine e_aload_n f289_8 rfl ?_
    refine e_iload_n f289_9 rfl ?_
    refine e_iload_n f289_10 rfl ?_
    obtain ⟨r4, hr5, hp⟩ := bind_some hp
    try dsimp only at hp
    refine e_callV (st := []) (o := 86) (as := [.int (a1), .int (a2)]) f289_11 (by decide) rfl rfl (Nat.le_of_ble_eq_true rfl) (WF.t w 86 (by decide)) (Nat.le_of_ble_eq_true rfl) (p282_ok d (h) w (a1) (a2) r4 hr5) ?_
    show ex _ 289 (14, [some (.ref (86)), some (.int (a0)), some (.int (a1)), some (.int (a2)), none], [.int (r4)], h) = _
    by_cases hc6 : (r4) = (0 : Int32)
    · rw [if_pos hc6] at hp
      refine e_if_ne_f f289_14 hc6 ?_
      refine e_iconst (v := -1) f289_17 (by decide) ?_
      have hp := Option.some.inj hp
      subst hp
      exact e_ireturn f289_18 (Or.inl rfl)
    · rw [if_neg hc6] at hp
      refine e_if_ne_t f289_14 hc6 ?_
      refine e_aload_n f289_19 rfl ?_
      refine e_getR f289_20 (WF.t w 86 (by decide)) rfl (WF.r (q := 146) w 86 82 (by decide)) ?_
      refine e_sipush (v := 4000) f289_23 (by decide) ?_
      refine e_iload_n f289_26 rfl ?_
      refine e_imul f289_27 ?_
      refine e_bipush (v := 20) f289_28 (by decide) ?_
      refine e_iload_n f289_30 rfl ?_
      refine e_imul f289_31 ?_
      refine e_iadd f289_32 ?_
      refine e_iload_n f289_33 rfl ?_
      refine e_iadd f289_34 ?_
      by_cases hg7 : ((((4000) * (a0)) + ((20) * (a1))) + (a2)) < (0 : Int32) ∨ 120000 ≤ ((((4000) * (a0)) + ((20) * (a1))) + (a2)).toNatClampNeg
      · rw [if_pos hg7] at hp; cases hp
      rw [if_neg hg7] at hp
      refine e_baload f289_35 (Or.inl (WF.t w 146 (by decide))) (WF.n w 146 (by decide)) hg7 ?_
      refine e_istore (ls2 := [some (.ref (86)), some (.int (a0)), some (.int (a1)), some (.int (a2)), some (.int (hI (h) (146) ((((4000) * (a0)) + ((20) * (a1))) + (a2)).toNatClampNeg))]) f289_36 (Nat.le_of_ble_eq_true rfl) rfl ?_
      refine e_iload f289_38 rfl ?_
      refine e_iconst (v := 2) f289_40 (by decide) ?_
      by_cases hc8 : (hI (h) (146) ((((4000) * (a0)) + ((20) * (a1))) + (a2)).toNatClampNeg) = ((2) : Int32)
      · rw [if_pos hc8] at hp
        refine e_icmp_ne_f f289_41 hc8 ?_
        refine e_aload_n f289_44 rfl ?_
        refine e_getR f289_45 (WF.t w 86 (by decide)) rfl (WF.r (q := 140) w 86 76 (by decide)) ?_
        refine e_bipush (v := 20) f289_48 (by decide) ?_
        refine e_iload_n f289_50 rfl ?_
        refine e_imul f289_51 ?_
        refine e_iload_n f289_52 rfl ?_
        refine e_iadd f289_53 ?_
        by_cases hg9 : (((20) * (a1)) + (a2)) < (0 : Int32) ∨ 4000 ≤ (((20) * (a1)) + (a2)).toNatClampNeg
        · rw [if_pos hg9] at hp; cases hp
        rw [if_neg hg9] at hp
        refine e_iaload f289_54 (Or.inl (WF.t w 140 (by decide))) (WF.n w 140 (by decide)) hg9 ?_
        refine e_goto f289_55 ?_
        have hp := Option.some.inj hp
        subst hp
        exact e_ireturn f289_82 (Or.inl rfl)
      · rw [if_neg hc8] at hp
        refine e_icmp_ne_t f289_41 hc8 ?_
        refine e_iload f289_58 rfl ?_
        refine e_iconst (v := 1) f289_60 (by decide) ?_
        by_cases hc10 : (hI (h) (146) ((((4000) * (a0)) + ((20) * (a1))) + (a2)).toNatClampNeg) = ((1) : Int32)
        · rw [if_pos hc10] at hp
          refine e_icmp_ne_f f289_61 hc10 ?_
          refine e_bipush (v := -2) f289_64 (by decide) ?_
          refine e_aload_n f289_66 rfl ?_
          refine e_getR f289_67 (WF.t w 86 (by decide)) rfl (WF.r (q := 139) w 86 75 (by decide)) ?_
          refine e_bipush (v := 20) f289_70 (by decide) ?_
          refine e_iload_n f289_72 rfl ?_
          refine e_imul f289_73 ?_
          refine e_iload_n f289_74 rfl ?_
          refine e_iadd f289_75 ?_
          by_cases hg11 : (((20) * (a1)) + (a2)) < (0 : Int32) ∨ 4000 ≤ (((20) * (a1)) + (a2)).toNatClampNeg
          · rw [if_pos hg11] at hp; cases hp
          rw [if_neg hg11] at hp
          refine e_iaload f289_76 (Or.inl (WF.t w 139 (by decide))) (WF.n w 139 (by decide)) hg11 ?_
          refine e_isub f289_77 ?_
          refine e_goto f289_78 ?_
          have hp := Option.some.inj hp
          subst hp
          exact e_ireturn f289_82 (Or.inl rfl)
        · rw [if_neg hc10] at hp
          refine e_icmp_ne_t f289_61 hc10 ?_
          refine e_iconst (v := -1) f289_81 (by decide) ?_
          have hp := Option.some.inj hp
          subst hp
          exact e_ireturn f289_82 (Or.inl rfl)
theorem f290_0 : fetch 290 0 = some (.aload_n 0, 0, 0, 0) := rfl
theorem f290_1 : fetch 290 1 = some (.getfield 46, 12, 19, 2) := rfl
theorem f290_4 : fetch 290 4 = some (.iload_n 2, 0, 0, 0) := rfl
theorem f290_5 : fetch 290 5 = some (.iaload, 0, 0, 0) := rfl
theorem f290_6 : fetch 290 6 = some (.ifCond .le 7, 13, 0, 0) := rfl
theorem f290_9 : fetch 290 9 = some (.iconst 1, 0, 0, 0) := rfl
theorem f290_10 : fetch 290 10 = some (.goto 4, 14, 0, 0) := rfl
theorem f290_13 : fetch 290 13 = some (.iconst 0, 0, 0, 0) := rfl
theorem f290_14 : fetch 290 14 = some (.istore_n 3, 0, 0, 0) := rfl
theorem f290_15 : fetch 290 15 = some (.iconst 0, 0, 0, 0) := rfl
theorem f290_16 : fetch 290 16 = some (.istore 4, 0, 0, 0) := rfl
theorem f290_18 : fetch 290 18 = some (.iload 4, 0, 0, 0) := rfl
theorem f290_20 : fetch 290 20 = some (.aload_n 0, 0, 0, 0) := rfl
theorem f290_21 : fetch 290 21 = some (.getfield 46, 12, 19, 2) := rfl
theorem f290_24 : fetch 290 24 = some (.iload_n 2, 0, 0, 0) := rfl
theorem f290_25 : fetch 290 25 = some (.iaload, 0, 0, 0) := rfl
theorem f290_26 : fetch 290 26 = some (.if_icmp .ge 41, 67, 0, 0) := rfl
theorem f290_29 : fetch 290 29 = some (.iload_n 3, 0, 0, 0) := rfl
theorem f290_30 : fetch 290 30 = some (.ifCond .eq 29, 59, 0, 0) := rfl
theorem f290_33 : fetch 290 33 = some (.aload_n 0, 0, 0, 0) := rfl
theorem f290_34 : fetch 290 34 = some (.getfield 195, 12, 82, 2) := rfl
theorem f290_37 : fetch 290 37 = some (.sipush 4000, 0, 0, 0) := rfl
theorem f290_40 : fetch 290 40 = some (.iload_n 1, 0, 0, 0) := rfl
theorem f290_41 : fetch 290 41 = some (.imul, 0, 0, 0) := rfl
theorem f290_42 : fetch 290 42 = some (.bipush 20, 0, 0, 0) := rfl
theorem f290_44 : fetch 290 44 = some (.iload_n 2, 0, 0, 0) := rfl
theorem f290_45 : fetch 290 45 = some (.imul, 0, 0, 0) := rfl
theorem f290_46 : fetch 290 46 = some (.iadd, 0, 0, 0) := rfl
theorem f290_47 : fetch 290 47 = some (.iload 4, 0, 0, 0) := rfl
theorem f290_49 : fetch 290 49 = some (.iadd, 0, 0, 0) := rfl
theorem f290_50 : fetch 290 50 = some (.baload, 0, 0, 0) := rfl
theorem f290_51 : fetch 290 51 = some (.iconst 2, 0, 0, 0) := rfl
theorem f290_52 : fetch 290 52 = some (.if_icmp .ne 7, 59, 0, 0) := rfl
theorem f290_55 : fetch 290 55 = some (.iconst 1, 0, 0, 0) := rfl
theorem f290_56 : fetch 290 56 = some (.goto 4, 60, 0, 0) := rfl
theorem f290_59 : fetch 290 59 = some (.iconst 0, 0, 0, 0) := rfl
theorem f290_60 : fetch 290 60 = some (.istore_n 3, 0, 0, 0) := rfl
theorem f290_61 : fetch 290 61 = some (.iinc 4 1, 0, 0, 0) := rfl
theorem f290_64 : fetch 290 64 = some (.goto (-46), 18, 0, 0) := rfl
theorem f290_67 : fetch 290 67 = some (.iload_n 3, 0, 0, 0) := rfl
theorem f290_68 : fetch 290 68 = some (.ireturn, 0, 0, 1) := rfl
set_option maxRecDepth 100000 in
set_option maxHeartbeats 4000000 in
theorem p290_j60_ok (d : Nat) (F : Nat) (a0 : Int32) (a1 : Int32) (K18 : Int32 → Int32 → Option (Int32)) (h : HS) (w : WF h) (hK18 : ∀ (u3 : Int32) (u4 : Int32) (r : Int32), K18 u3 u4 = some r → ex (d + 0) 290 (18, [some (.ref (86)), some (.int (a0)), some (.int (a1)), some (.int (u3)), some (.int (u4))], [], h) = some (some (.int (r)), h)) (v4 : Int32) (s0 : Int32) (r : Int32) (hp : p290_j60 F a0 a1 K18 h v4 s0 = some r) : ex (d + 0) 290 (60, [some (.ref (86)), some (.int (a0)), some (.int (a1)), none, some (.int (v4))], [.int (s0)], h) = some (some (.int (r)), h) := by
  unfold p290_j60 at hp
  refine e_istore_n (ls2 := [some (.ref (86)), some (.int (a0)), some (.int (a1)), some (.int (s0)), some (.int (v4))]) f290_60 (Nat.le_of_ble_eq_true rfl) rfl ?_
  refine e_iinc (ls2 := [some (.ref (86)), some (.int (a0)), some (.int (a1)), some (.int (s0)), some (.int ((v4) + 1))]) f290_61 (by decide) rfl rfl ?_
  refine e_goto f290_64 ?_
  refine ex_weak (ls := [some (.ref (86)), some (.int (a0)), some (.int (a1)), some (.int (s0)), some (.int ((v4) + 1))]) (le2_ok ⟨Or.inr rfl, Or.inr rfl, Or.inr rfl, Or.inr rfl, Or.inr rfl, trivial⟩) ?_
  exact hK18 (s0) ((v4) + 1) _ hp
set_option maxRecDepth 100000 in
set_option maxHeartbeats 4000000 in
theorem p290_j59_ok (d : Nat) (F : Nat) (a0 : Int32) (a1 : Int32) (K18 : Int32 → Int32 → Option (Int32)) (h : HS) (w : WF h) (hK18 : ∀ (u3 : Int32) (u4 : Int32) (r : Int32), K18 u3 u4 = some r → ex (d + 0) 290 (18, [some (.ref (86)), some (.int (a0)), some (.int (a1)), some (.int (u3)), some (.int (u4))], [], h) = some (some (.int (r)), h)) (v4 : Int32) (r : Int32) (hp : p290_j59 F a0 a1 K18 h v4 = some r) : ex (d + 0) 290 (59, [some (.ref (86)), some (.int (a0)), some (.int (a1)), none, some (.int (v4))], [], h) = some (some (.int (r)), h) := by
  unfold p290_j59 at hp
  refine e_iconst (v := 0) f290_59 (by decide) ?_
  refine ex_weak (ls := [some (.ref (86)), some (.int (a0)), some (.int (a1)), none, some (.int (v4))]) (le2_ok ⟨Or.inr rfl, Or.inr rfl, Or.inr rfl, Or.inl rfl, Or.inr rfl, trivial⟩) ?_
  exact p290_j60_ok d F a0 a1 (K18) (h) (w) (hK18) (v4) (0) _ hp
set_option maxRecDepth 100000 in
set_option maxHeartbeats 4000000 in
theorem p290_L18_ok (d : Nat) (F : Nat) (a0 : Int32) (a1 : Int32) (h : HS) (w : WF h)  : ∀ (n : Nat) (v3 : Int32) (v4 : Int32) (r : Int32), p290_L18 F a0 a1 n h v3 v4 = some r → ex (d + 0) 290 (18, [some (.ref (86)), some (.int (a0)), some (.int (a1)), some (.int (v3)), some (.int (v4))], [], h) = some (some (.int (r)), h) := by
  intro n
  induction n with
  | zero => intro v3 v4 r hp; cases hp
  | succ n ih =>
    intro v3 v4 r hp
    unfold p290_L18 at hp
    refine e_iload f290_18 rfl ?_
    refine e_aload_n f290_20 rfl ?_
    refine e_getR f290_21 (WF.t w 86 (by decide)) rfl (WF.r (q := 99) w 86 19 (by decide)) ?_
    refine e_iload_n f290_24 rfl ?_
    by_cases hg3 : (a1) < (0 : Int32) ∨ 200 ≤ (a1).toNatClampNeg
    · rw [if_pos hg3] at hp; cases hp
    rw [if_neg hg3] at hp
    refine e_iaload f290_25 (Or.inl (WF.t w 99 (by decide))) (WF.n w 99 (by decide)) hg3 ?_
    by_cases hc4 : (v4) < ((hI (h) (99) (a1).toNatClampNeg) : Int32)
    · rw [if_pos hc4] at hp
      refine e_icmp_ge_f f290_26 hc4 ?_
      refine e_iload_n f290_29 rfl ?_
      by_cases hc5 : (v3) = (0 : Int32)
      · rw [if_pos hc5] at hp
        refine e_if_eq_t f290_30 hc5 ?_
        refine ex_weak (ls := [some (.ref (86)), some (.int (a0)), some (.int (a1)), none, some (.int (v4))]) (le2_ok ⟨Or.inr rfl, Or.inr rfl, Or.inr rfl, Or.inl rfl, Or.inr rfl, trivial⟩) ?_
        exact p290_j59_ok d F a0 a1 ((p290_L18 F a0 a1 n h)) (h) (w) (ih) (v4) _ hp
      · rw [if_neg hc5] at hp
        refine e_if_eq_f f290_30 hc5 ?_
        refine e_aload_n f290_33 rfl ?_
        refine e_getR f290_34 (WF.t w 86 (by decide)) rfl (WF.r (q := 146) w 86 82 (by decide)) ?_
        refine e_sipush (v := 4000) f290_37 (by decide) ?_
        refine e_iload_n f290_40 rfl ?_
        refine e_imul f290_41 ?_
        refine e_bipush (v := 20) f290_42 (by decide) ?_
        refine e_iload_n f290_44 rfl ?_
        refine e_imul f290_45 ?_
        refine e_iadd f290_46 ?_
        refine e_iload f290_47 rfl ?_
        refine e_iadd f290_49 ?_
        by_cases hg6 : ((((4000) * (a0)) + ((20) * (a1))) + (v4)) < (0 : Int32) ∨ 120000 ≤ ((((4000) * (a0)) + ((20) * (a1))) + (v4)).toNatClampNeg
        · rw [if_pos hg6] at hp; cases hp
        rw [if_neg hg6] at hp
        refine e_baload f290_50 (Or.inl (WF.t w 146 (by decide))) (WF.n w 146 (by decide)) hg6 ?_
        refine e_iconst (v := 2) f290_51 (by decide) ?_
        by_cases hc7 : (hI (h) (146) ((((4000) * (a0)) + ((20) * (a1))) + (v4)).toNatClampNeg) = ((2) : Int32)
        · rw [if_pos hc7] at hp
          refine e_icmp_ne_f f290_52 hc7 ?_
          refine e_iconst (v := 1) f290_55 (by decide) ?_
          refine e_goto f290_56 ?_
          refine ex_weak (ls := [some (.ref (86)), some (.int (a0)), some (.int (a1)), none, some (.int (v4))]) (le2_ok ⟨Or.inr rfl, Or.inr rfl, Or.inr rfl, Or.inl rfl, Or.inr rfl, trivial⟩) ?_
          exact p290_j60_ok d F a0 a1 ((p290_L18 F a0 a1 n h)) (h) (w) (ih) (v4) (1) _ hp
        · rw [if_neg hc7] at hp
          refine e_icmp_ne_t f290_52 hc7 ?_
          refine ex_weak (ls := [some (.ref (86)), some (.int (a0)), some (.int (a1)), none, some (.int (v4))]) (le2_ok ⟨Or.inr rfl, Or.inr rfl, Or.inr rfl, Or.inl rfl, Or.inr rfl, trivial⟩) ?_
          exact p290_j59_ok d F a0 a1 ((p290_L18 F a0 a1 n h)) (h) (w) (ih) (v4) _ hp
    · rw [if_neg hc4] at hp
      refine e_icmp_ge_t f290_26 hc4 ?_
      refine e_iload_n f290_67 rfl ?_
      by_cases hg8 : (v3) = (0 : Int32) ∨ (v3) = (1 : Int32)
      rotate_left
      · rw [if_neg hg8] at hp; cases hp
      rw [if_pos hg8] at hp
      have hp := Option.some.inj hp
      subst hp
      exact e_ireturn f290_68 (Or.inr hg8)
set_option maxRecDepth 100000 in
set_option maxHeartbeats 4000000 in
theorem p290_j14_ok (d : Nat) (F : Nat) (a0 : Int32) (a1 : Int32) (h : HS) (w : WF h)  (s0 : Int32) (r : Int32) (hp : p290_j14 F a0 a1 h s0 = some r) : ex (d + 0) 290 (14, [some (.ref (86)), some (.int (a0)), some (.int (a1)), none, none], [.int (s0)], h) = some (some (.int (r)), h) := by
  unfold p290_j14 at hp
  refine e_istore_n (ls2 := [some (.ref (86)), some (.int (a0)), some (.int (a1)), some (.int (s0)), none]) f290_14 (Nat.le_of_ble_eq_true rfl) rfl ?_
  refine e_iconst (v := 0) f290_15 (by decide) ?_
  refine e_istore (ls2 := [some (.ref (86)), some (.int (a0)), some (.int (a1)), some (.int (s0)), some (.int (0))]) f290_16 (Nat.le_of_ble_eq_true rfl) rfl ?_
  refine ex_weak (ls := [some (.ref (86)), some (.int (a0)), some (.int (a1)), some (.int (s0)), some (.int (0))]) (le2_ok ⟨Or.inr rfl, Or.inr rfl, Or.inr rfl, Or.inr rfl, Or.inr rfl, trivial⟩) ?_
  exact p290_L18_ok d F a0 a1 (h) (w) F (s0) (0) _ hp
set_option maxRecDepth 100000 in
set_option maxHeartbeats 4000000 in
theorem p290_ok (d : Nat) (F : Nat) (h : HS) (w : WF h) (a0 : Int32) (a1 : Int32) (r : Int32) (hp : p290 F h a0 a1 = some r) : ex (d + 0) 290 (ent 290 [.ref (86), .int (a0), .int (a1)] h) = some (some (.int (r)), h) := by
  rw [show ent 290 [.ref (86), .int (a0), .int (a1)] h = (0, [some (.ref (86)), some (.int (a0)), some (.int (a1)), none, none], [], h) from by  rfl]
  refine ex_weak (ls := [some (.ref (86)), some (.int (a0)), some (.int (a1)), none, none]) (le2_ok ⟨Or.inr rfl, Or.inr rfl, Or.inr rfl, Or.inr rfl, Or.inr rfl, trivial⟩) ?_
  unfold p290 at hp
  refine e_aload_n f290_0 rfl ?_
  refine e_getR f290_1 (WF.t w 86 (by decide)) rfl (WF.r (q := 99) w 86 19 (by decide)) ?_
  refine e_iload_n f290_4 rfl ?_
  by_cases hg1 : (a1) < (0 : Int32) ∨ 200 ≤ (a1).toNatClampNeg
  · rw [if_pos hg1] at hp; cases hp
  rw [if_neg hg1] at hp
  refine e_iaload f290_5 (Or.inl (WF.t w 99 (by decide))) (WF.n w 99 (by decide)) hg1 ?_
  by_cases hc2 : (0 : Int32) < (hI (h) (99) (a1).toNatClampNeg)
  · rw [if_pos hc2] at hp
    refine e_if_le_f f290_6 hc2 ?_
    refine e_iconst (v := 1) f290_9 (by decide) ?_
    refine e_goto f290_10 ?_
    refine ex_weak (ls := [some (.ref (86)), some (.int (a0)), some (.int (a1)), none, none]) (le2_ok ⟨Or.inr rfl, Or.inr rfl, Or.inr rfl, Or.inl rfl, Or.inl rfl, trivial⟩) ?_
    exact p290_j14_ok d F a0 a1 (h) (w) (1) _ hp
  · rw [if_neg hc2] at hp
    refine e_if_le_t f290_6 hc2 ?_
    refine e_iconst (v := 0) f290_13 (by decide) ?_
    refine ex_weak (ls := [some (.ref (86)), some (.int (a0)), some (.int (a1)), none, none]) (le2_ok ⟨Or.inr rfl, Or.inr rfl, Or.inr rfl, Or.inl rfl, Or.inl rfl, trivial⟩) ?_
    exact p290_j14_ok d F a0 a1 (h) (w) (0) _ hp
theorem f291_0 : fetch 291 0 = some (.aload_n 0, 0, 0, 0) := rfl
theorem f291_1 : fetch 291 1 = some (.iload_n 1, 0, 0, 0) := rfl
theorem f291_2 : fetch 291 2 = some (.invokevirtual 560, 277, 1, 0) := rfl
theorem f291_5 : fetch 291 5 = some (.ifCond .eq 25, 30, 0, 0) := rfl
theorem f291_8 : fetch 291 8 = some (.aload_n 0, 0, 0, 0) := rfl
theorem f291_9 : fetch 291 9 = some (.iload_n 2, 0, 0, 0) := rfl
theorem f291_10 : fetch 291 10 = some (.invokevirtual 329, 218, 1, 0) := rfl
theorem f291_13 : fetch 291 13 = some (.ifCond .eq 17, 30, 0, 0) := rfl
theorem f291_16 : fetch 291 16 = some (.iload_n 3, 0, 0, 0) := rfl
theorem f291_17 : fetch 291 17 = some (.iconst (-1), 0, 0, 0) := rfl
theorem f291_18 : fetch 291 18 = some (.aload_n 0, 0, 0, 0) := rfl
theorem f291_19 : fetch 291 19 = some (.getfield 287, 12, 14, 0) := rfl
theorem f291_22 : fetch 291 22 = some (.iconst 1, 0, 0, 0) := rfl
theorem f291_23 : fetch 291 23 = some (.isub, 0, 0, 0) := rfl
theorem f291_24 : fetch 291 24 = some (.invokestatic 240, 187, 3, 1) := rfl
theorem f291_27 : fetch 291 27 = some (.ifCond .ne 5, 32, 0, 0) := rfl
theorem f291_30 : fetch 291 30 = some (.iconst (-1), 0, 0, 0) := rfl
theorem f291_31 : fetch 291 31 = some (.ireturn, 0, 0, 0) := rfl
theorem f291_32 : fetch 291 32 = some (.iconst 0, 0, 0, 0) := rfl
theorem f291_33 : fetch 291 33 = some (.istore 4, 0, 0, 0) := rfl
theorem f291_35 : fetch 291 35 = some (.iload 4, 0, 0, 0) := rfl
theorem f291_37 : fetch 291 37 = some (.aload_n 0, 0, 0, 0) := rfl
theorem f291_38 : fetch 291 38 = some (.getfield 287, 12, 14, 0) := rfl
theorem f291_41 : fetch 291 41 = some (.if_icmp .ge 23, 64, 0, 0) := rfl
theorem f291_44 : fetch 291 44 = some (.aload_n 0, 0, 0, 0) := rfl
theorem f291_45 : fetch 291 45 = some (.getfield 201, 12, 84, 2) := rfl
theorem f291_48 : fetch 291 48 = some (.iload 4, 0, 0, 0) := rfl
theorem f291_50 : fetch 291 50 = some (.aload_n 0, 0, 0, 0) := rfl
theorem f291_51 : fetch 291 51 = some (.iload_n 1, 0, 0, 0) := rfl
theorem f291_52 : fetch 291 52 = some (.iload 4, 0, 0, 0) := rfl
theorem f291_54 : fetch 291 54 = some (.invokevirtual 577, 290, 2, 0) := rfl
theorem f291_57 : fetch 291 57 = some (.bastore, 0, 0, 0) := rfl
theorem f291_58 : fetch 291 58 = some (.iinc 4 1, 0, 0, 0) := rfl
theorem f291_61 : fetch 291 61 = some (.goto (-26), 35, 0, 0) := rfl
theorem f291_64 : fetch 291 64 = some (.iconst 0, 0, 0, 0) := rfl
theorem f291_65 : fetch 291 65 = some (.istore 4, 0, 0, 0) := rfl
theorem f291_67 : fetch 291 67 = some (.iconst 0, 0, 0, 0) := rfl
theorem f291_68 : fetch 291 68 = some (.istore 5, 0, 0, 0) := rfl
theorem f291_70 : fetch 291 70 = some (.iload 5, 0, 0, 0) := rfl
theorem f291_72 : fetch 291 72 = some (.aload_n 0, 0, 0, 0) := rfl
theorem f291_73 : fetch 291 73 = some (.getfield 314, 12, 20, 0) := rfl
theorem f291_76 : fetch 291 76 = some (.if_icmp .ge 147, 223, 0, 0) := rfl
theorem f291_79 : fetch 291 79 = some (.iconst 1, 0, 0, 0) := rfl
theorem f291_80 : fetch 291 80 = some (.istore 6, 0, 0, 0) := rfl
theorem f291_82 : fetch 291 82 = some (.iconst 0, 0, 0, 0) := rfl
theorem f291_83 : fetch 291 83 = some (.istore 7, 0, 0, 0) := rfl
theorem f291_85 : fetch 291 85 = some (.iload 7, 0, 0, 0) := rfl
theorem f291_87 : fetch 291 87 = some (.aload_n 0, 0, 0, 0) := rfl
theorem f291_88 : fetch 291 88 = some (.getfield 304, 12, 32, 0) := rfl
theorem f291_91 : fetch 291 91 = some (.if_icmp .ge 111, 202, 0, 0) := rfl
theorem f291_94 : fetch 291 94 = some (.iload 6, 0, 0, 0) := rfl
theorem f291_96 : fetch 291 96 = some (.ifCond .eq 106, 202, 0, 0) := rfl
theorem f291_99 : fetch 291 99 = some (.aload_n 0, 0, 0, 0) := rfl
theorem f291_100 : fetch 291 100 = some (.getfield 85, 12, 37, 2) := rfl
theorem f291_103 : fetch 291 103 = some (.iload 7, 0, 0, 0) := rfl
theorem f291_105 : fetch 291 105 = some (.iaload, 0, 0, 0) := rfl
theorem f291_106 : fetch 291 106 = some (.iload_n 2, 0, 0, 0) := rfl
theorem f291_107 : fetch 291 107 = some (.if_icmp .ne 59, 166, 0, 0) := rfl
theorem f291_110 : fetch 291 110 = some (.aload_n 0, 0, 0, 0) := rfl
theorem f291_111 : fetch 291 111 = some (.getfield 201, 12, 84, 2) := rfl
theorem f291_114 : fetch 291 114 = some (.aload_n 0, 0, 0, 0) := rfl
theorem f291_115 : fetch 291 115 = some (.getfield 82, 12, 36, 2) := rfl
theorem f291_118 : fetch 291 118 = some (.iload 7, 0, 0, 0) := rfl
theorem f291_120 : fetch 291 120 = some (.iaload, 0, 0, 0) := rfl
theorem f291_121 : fetch 291 121 = some (.baload, 0, 0, 0) := rfl
theorem f291_122 : fetch 291 122 = some (.ifCond .eq 16, 138, 0, 0) := rfl
theorem f291_125 : fetch 291 125 = some (.aload_n 0, 0, 0, 0) := rfl
theorem f291_126 : fetch 291 126 = some (.iload 7, 0, 0, 0) := rfl
theorem f291_128 : fetch 291 128 = some (.aload_n 0, 0, 0, 0) := rfl
theorem f291_129 : fetch 291 129 = some (.getfield 244, 12, 1, 0) := rfl
theorem f291_132 : fetch 291 132 = some (.invokevirtual 338, 222, 2, 0) := rfl
theorem f291_135 : fetch 291 135 = some (.ifCond .ne 27, 162, 0, 0) := rfl
theorem f291_138 : fetch 291 138 = some (.aload_n 0, 0, 0, 0) := rfl
theorem f291_139 : fetch 291 139 = some (.getfield 82, 12, 36, 2) := rfl
theorem f291_142 : fetch 291 142 = some (.iload 7, 0, 0, 0) := rfl
theorem f291_144 : fetch 291 144 = some (.iaload, 0, 0, 0) := rfl
theorem f291_145 : fetch 291 145 = some (.iload_n 3, 0, 0, 0) := rfl
theorem f291_146 : fetch 291 146 = some (.if_icmp .ne 20, 166, 0, 0) := rfl
theorem f291_149 : fetch 291 149 = some (.aload_n 0, 0, 0, 0) := rfl
theorem f291_150 : fetch 291 150 = some (.getfield 106, 12, 44, 2) := rfl
theorem f291_153 : fetch 291 153 = some (.iload 7, 0, 0, 0) := rfl
theorem f291_155 : fetch 291 155 = some (.iaload, 0, 0, 0) := rfl
theorem f291_156 : fetch 291 156 = some (.ldc_w 290, 0, 0, 100000) := rfl
theorem f291_159 : fetch 291 159 = some (.if_icmp .ne 7, 166, 0, 0) := rfl
theorem f291_162 : fetch 291 162 = some (.iconst 1, 0, 0, 0) := rfl
theorem f291_163 : fetch 291 163 = some (.goto 4, 167, 0, 0) := rfl
theorem f291_166 : fetch 291 166 = some (.iconst 0, 0, 0, 0) := rfl
theorem f291_167 : fetch 291 167 = some (.istore 8, 0, 0, 0) := rfl
theorem f291_169 : fetch 291 169 = some (.iload 8, 0, 0, 0) := rfl
theorem f291_171 : fetch 291 171 = some (.ifCond .eq 18, 189, 0, 0) := rfl
theorem f291_174 : fetch 291 174 = some (.aload_n 0, 0, 0, 0) := rfl
theorem f291_175 : fetch 291 175 = some (.iload 7, 0, 0, 0) := rfl
theorem f291_177 : fetch 291 177 = some (.iload 5, 0, 0, 0) := rfl
theorem f291_179 : fetch 291 179 = some (.aload_n 0, 0, 0, 0) := rfl
theorem f291_180 : fetch 291 180 = some (.getfield 244, 12, 1, 0) := rfl
theorem f291_183 : fetch 291 183 = some (.invokevirtual 345, 225, 3, 0) := rfl
theorem f291_186 : fetch 291 186 = some (.ifCond .ne 7, 193, 0, 0) := rfl
theorem f291_189 : fetch 291 189 = some (.iconst 1, 0, 0, 0) := rfl
theorem f291_190 : fetch 291 190 = some (.goto 4, 194, 0, 0) := rfl
theorem f291_193 : fetch 291 193 = some (.iconst 0, 0, 0, 0) := rfl
theorem f291_194 : fetch 291 194 = some (.istore 6, 0, 0, 0) := rfl
theorem f291_196 : fetch 291 196 = some (.iinc 7 1, 0, 0, 0) := rfl
theorem f291_199 : fetch 291 199 = some (.goto (-114), 85, 0, 0) := rfl
theorem f291_202 : fetch 291 202 = some (.iload 4, 0, 0, 0) := rfl
theorem f291_204 : fetch 291 204 = some (.iload 6, 0, 0, 0) := rfl
theorem f291_206 : fetch 291 206 = some (.ifCond .eq 7, 213, 0, 0) := rfl
theorem f291_209 : fetch 291 209 = some (.iconst 1, 0, 0, 0) := rfl
theorem f291_210 : fetch 291 210 = some (.goto 4, 214, 0, 0) := rfl
theorem f291_213 : fetch 291 213 = some (.iconst 0, 0, 0, 0) := rfl
theorem f291_214 : fetch 291 214 = some (.iadd, 0, 0, 0) := rfl
theorem f291_215 : fetch 291 215 = some (.istore 4, 0, 0, 0) := rfl
theorem f291_217 : fetch 291 217 = some (.iinc 5 1, 0, 0, 0) := rfl
theorem f291_220 : fetch 291 220 = some (.goto (-150), 70, 0, 0) := rfl
theorem f291_223 : fetch 291 223 = some (.iload 4, 0, 0, 0) := rfl
theorem f291_225 : fetch 291 225 = some (.ireturn, 0, 0, 0) := rfl
set_option maxRecDepth 100000 in
set_option maxHeartbeats 4000000 in
theorem p291_j194_ok (d : Nat) (F : Nat) (a0 : Int32) (a1 : Int32) (a2 : Int32) (K70 : HS → Int32 → Int32 → Option (Int32 × HS)) (K85 : HS → Int32 → Int32 → Int32 → Int32 → Option (Int32 × HS)) (hK70 : ∀ (h : HS) (w : WF h) (u4 : Int32) (u5 : Int32) (r : Int32 × HS), K70 h u4 u5 = some r → ex (d + 3) 291 (70, [some (.ref (86)), none, some (.int (a1)), some (.int (a2)), some (.int (u4)), some (.int (u5)), none, none, none], [], h) = some (some (.int (r.1)), r.2)) (hK85 : ∀ (h : HS) (w : WF h) (u4 : Int32) (u5 : Int32) (u6 : Int32) (u7 : Int32) (r : Int32 × HS), K85 h u4 u5 u6 u7 = some r → ex (d + 3) 291 (85, [some (.ref (86)), none, some (.int (a1)), some (.int (a2)), some (.int (u4)), some (.int (u5)), some (.int (u6)), some (.int (u7)), none], [], h) = some (some (.int (r.1)), r.2)) (h : HS) (w : WF h) (v4 : Int32) (v5 : Int32) (v7 : Int32) (s0 : Int32) (r : Int32 × HS) (hp : p291_j194 F a0 a1 a2 K70 K85 h v4 v5 v7 s0 = some r) : ex (d + 3) 291 (194, [some (.ref (86)), none, some (.int (a1)), some (.int (a2)), some (.int (v4)), some (.int (v5)), none, some (.int (v7)), none], [.int (s0)], h) = some (some (.int (r.1)), r.2) := by
  unfold p291_j194 at hp
  refine e_istore (ls2 := [some (.ref (86)), none, some (.int (a1)), some (.int (a2)), some (.int (v4)), some (.int (v5)), some (.int (s0)), some (.int (v7)), none]) f291_194 (Nat.le_of_ble_eq_true rfl) rfl ?_
  refine e_iinc (ls2 := [some (.ref (86)), none, some (.int (a1)), some (.int (a2)), some (.int (v4)), some (.int (v5)), some (.int (s0)), some (.int ((v7) + 1)), none]) f291_196 (by decide) rfl rfl ?_
  refine e_goto f291_199 ?_
  refine ex_weak (ls := [some (.ref (86)), none, some (.int (a1)), some (.int (a2)), some (.int (v4)), some (.int (v5)), some (.int (s0)), some (.int ((v7) + 1)), none]) (le2_ok ⟨Or.inr rfl, Or.inl rfl, Or.inr rfl, Or.inr rfl, Or.inr rfl, Or.inr rfl, Or.inr rfl, Or.inr rfl, Or.inl rfl, trivial⟩) ?_
  exact hK85 (h) (w) (v4) (v5) (s0) ((v7) + 1) _ hp
set_option maxRecDepth 100000 in
set_option maxHeartbeats 4000000 in
theorem p291_j194_w (F : Nat) (a0 : Int32) (a1 : Int32) (a2 : Int32) (K70 : HS → Int32 → Int32 → Option (Int32 × HS)) (K85 : HS → Int32 → Int32 → Int32 → Int32 → Option (Int32 × HS)) (hK70 : ∀ (h : HS) (w : WF h) (u4 : Int32) (u5 : Int32) (r : Int32 × HS), K70 h u4 u5 = some r → WF r.2) (hK85 : ∀ (h : HS) (w : WF h) (u4 : Int32) (u5 : Int32) (u6 : Int32) (u7 : Int32) (r : Int32 × HS), K85 h u4 u5 u6 u7 = some r → WF r.2) (h : HS) (w : WF h) (v4 : Int32) (v5 : Int32) (v7 : Int32) (s0 : Int32) (r : Int32 × HS) (hp : p291_j194 F a0 a1 a2 K70 K85 h v4 v5 v7 s0 = some r) : WF r.2 := by
  unfold p291_j194 at hp
  exact hK85 (h) (w) (v4) (v5) (s0) ((v7) + 1) _ hp
set_option maxRecDepth 100000 in
set_option maxHeartbeats 4000000 in
theorem p291_j214_ok (d : Nat) (F : Nat) (a0 : Int32) (a1 : Int32) (a2 : Int32) (K70 : HS → Int32 → Int32 → Option (Int32 × HS)) (hK70 : ∀ (h : HS) (w : WF h) (u4 : Int32) (u5 : Int32) (r : Int32 × HS), K70 h u4 u5 = some r → ex (d + 3) 291 (70, [some (.ref (86)), none, some (.int (a1)), some (.int (a2)), some (.int (u4)), some (.int (u5)), none, none, none], [], h) = some (some (.int (r.1)), r.2)) (h : HS) (w : WF h) (v5 : Int32) (s0 : Int32) (s1 : Int32) (r : Int32 × HS) (hp : p291_j214 F a0 a1 a2 K70 h v5 s0 s1 = some r) : ex (d + 3) 291 (214, [some (.ref (86)), none, some (.int (a1)), some (.int (a2)), none, some (.int (v5)), none, none, none], [.int (s0), .int (s1)], h) = some (some (.int (r.1)), r.2) := by
  unfold p291_j214 at hp
  refine e_iadd f291_214 ?_
  refine e_istore (ls2 := [some (.ref (86)), none, some (.int (a1)), some (.int (a2)), some (.int ((s1) + (s0))), some (.int (v5)), none, none, none]) f291_215 (Nat.le_of_ble_eq_true rfl) rfl ?_
  refine e_iinc (ls2 := [some (.ref (86)), none, some (.int (a1)), some (.int (a2)), some (.int ((s1) + (s0))), some (.int ((v5) + 1)), none, none, none]) f291_217 (by decide) rfl rfl ?_
  refine e_goto f291_220 ?_
  refine ex_weak (ls := [some (.ref (86)), none, some (.int (a1)), some (.int (a2)), some (.int ((s1) + (s0))), some (.int ((v5) + 1)), none, none, none]) (le2_ok ⟨Or.inr rfl, Or.inl rfl, Or.inr rfl, Or.inr rfl, Or.inr rfl, Or.inr rfl, Or.inl rfl, Or.inl rfl, Or.inl rfl, trivial⟩) ?_
  exact hK70 (h) (w) ((s1) + (s0)) ((v5) + 1) _ hp
set_option maxRecDepth 100000 in
set_option maxHeartbeats 4000000 in
theorem p291_j214_w (F : Nat) (a0 : Int32) (a1 : Int32) (a2 : Int32) (K70 : HS → Int32 → Int32 → Option (Int32 × HS)) (hK70 : ∀ (h : HS) (w : WF h) (u4 : Int32) (u5 : Int32) (r : Int32 × HS), K70 h u4 u5 = some r → WF r.2) (h : HS) (w : WF h) (v5 : Int32) (s0 : Int32) (s1 : Int32) (r : Int32 × HS) (hp : p291_j214 F a0 a1 a2 K70 h v5 s0 s1 = some r) : WF r.2 := by
  unfold p291_j214 at hp
  exact hK70 (h) (w) ((s1) + (s0)) ((v5) + 1) _ hp
set_option maxRecDepth 100000 in
set_option maxHeartbeats 4000000 in
theorem p291_j189_ok (d : Nat) (F : Nat) (a0 : Int32) (a1 : Int32) (a2 : Int32) (K70 : HS → Int32 → Int32 → Option (Int32 × HS)) (K85 : HS → Int32 → Int32 → Int32 → Int32 → Option (Int32 × HS)) (hK70 : ∀ (h : HS) (w : WF h) (u4 : Int32) (u5 : Int32) (r : Int32 × HS), K70 h u4 u5 = some r → ex (d + 3) 291 (70, [some (.ref (86)), none, some (.int (a1)), some (.int (a2)), some (.int (u4)), some (.int (u5)), none, none, none], [], h) = some (some (.int (r.1)), r.2)) (hK85 : ∀ (h : HS) (w : WF h) (u4 : Int32) (u5 : Int32) (u6 : Int32) (u7 : Int32) (r : Int32 × HS), K85 h u4 u5 u6 u7 = some r → ex (d + 3) 291 (85, [some (.ref (86)), none, some (.int (a1)), some (.int (a2)), some (.int (u4)), some (.int (u5)), some (.int (u6)), some (.int (u7)), none], [], h) = some (some (.int (r.1)), r.2)) (h : HS) (w : WF h) (v4 : Int32) (v5 : Int32) (v7 : Int32) (r : Int32 × HS) (hp : p291_j189 F a0 a1 a2 K70 K85 h v4 v5 v7 = some r) : ex (d + 3) 291 (189, [some (.ref (86)), none, some (.int (a1)), some (.int (a2)), some (.int (v4)), some (.int (v5)), none, some (.int (v7)), none], [], h) = some (some (.int (r.1)), r.2) := by
  unfold p291_j189 at hp
  refine e_iconst (v := 1) f291_189 (by decide) ?_
  refine e_goto f291_190 ?_
  refine ex_weak (ls := [some (.ref (86)), none, some (.int (a1)), some (.int (a2)), some (.int (v4)), some (.int (v5)), none, some (.int (v7)), none]) (le2_ok ⟨Or.inr rfl, Or.inl rfl, Or.inr rfl, Or.inr rfl, Or.inr rfl, Or.inr rfl, Or.inl rfl, Or.inr rfl, Or.inl rfl, trivial⟩) ?_
  exact p291_j194_ok d F a0 a1 a2 (K70) (K85) (hK70) (hK85) (h) (w) (v4) (v5) (v7) (1) _ hp
set_option maxRecDepth 100000 in
set_option maxHeartbeats 4000000 in
theorem p291_j189_w (F : Nat) (a0 : Int32) (a1 : Int32) (a2 : Int32) (K70 : HS → Int32 → Int32 → Option (Int32 × HS)) (K85 : HS → Int32 → Int32 → Int32 → Int32 → Option (Int32 × HS)) (hK70 : ∀ (h : HS) (w : WF h) (u4 : Int32) (u5 : Int32) (r : Int32 × HS), K70 h u4 u5 = some r → WF r.2) (hK85 : ∀ (h : HS) (w : WF h) (u4 : Int32) (u5 : Int32) (u6 : Int32) (u7 : Int32) (r : Int32 × HS), K85 h u4 u5 u6 u7 = some r → WF r.2) (h : HS) (w : WF h) (v4 : Int32) (v5 : Int32) (v7 : Int32) (r : Int32 × HS) (hp : p291_j189 F a0 a1 a2 K70 K85 h v4 v5 v7 = some r) : WF r.2 := by
  unfold p291_j189 at hp
  exact p291_j194_w F a0 a1 a2 (K70) (K85) (hK70) (hK85) (h) (w) (v4) (v5) (v7) (1) _ hp
set_option maxRecDepth 100000 in
set_option maxHeartbeats 4000000 in
theorem p291_j202_ok (d : Nat) (F : Nat) (a0 : Int32) (a1 : Int32) (a2 : Int32) (K70 : HS → Int32 → Int32 → Option (Int32 × HS)) (hK70 : ∀ (h : HS) (w : WF h) (u4 : Int32) (u5 : Int32) (r : Int32 × HS), K70 h u4 u5 = some r → ex (d + 3) 291 (70, [some (.ref (86)), none, some (.int (a1)), some (.int (a2)), some (.int (u4)), some (.int (u5)), none, none, none], [], h) = some (some (.int (r.1)), r.2)) (h : HS) (w : WF h) (v4 : Int32) (v5 : Int32) (v6 : Int32) (r : Int32 × HS) (hp : p291_j202 F a0 a1 a2 K70 h v4 v5 v6 = some r) : ex (d + 3) 291 (202, [some (.ref (86)), none, some (.int (a1)), some (.int (a2)), some (.int (v4)), some (.int (v5)), some (.int (v6)), none, none], [], h) = some (some (.int (r.1)), r.2) := by
  unfold p291_j202 at hp
  refine e_iload f291_202 rfl ?_
  refine e_iload f291_204 rfl ?_
  by_cases hc25 : (v6) = (0 : Int32)
  · rw [if_pos hc25] at hp
    refine e_if_eq_t f291_206 hc25 ?_
    refine e_iconst (v := 0) f291_213 (by decide) ?_
    refine ex_weak (ls := [some (.ref (86)), none, some (.int (a1)), some (.int (a2)), none, some (.int (v5)), none, none, none]) (le2_ok ⟨Or.inr rfl, Or.inl rfl, Or.inr rfl, Or.inr rfl, Or.inl rfl, Or.inr rfl, Or.inl rfl, Or.inl rfl, Or.inl rfl, trivial⟩) ?_
    exact p291_j214_ok d F a0 a1 a2 (K70) (hK70) (h) (w) (v5) (0) (v4) _ hp
  · rw [if_neg hc25] at hp
    refine e_if_eq_f f291_206 hc25 ?_
    refine e_iconst (v := 1) f291_209 (by decide) ?_
    refine e_goto f291_210 ?_
    refine ex_weak (ls := [some (.ref (86)), none, some (.int (a1)), some (.int (a2)), none, some (.int (v5)), none, none, none]) (le2_ok ⟨Or.inr rfl, Or.inl rfl, Or.inr rfl, Or.inr rfl, Or.inl rfl, Or.inr rfl, Or.inl rfl, Or.inl rfl, Or.inl rfl, trivial⟩) ?_
    exact p291_j214_ok d F a0 a1 a2 (K70) (hK70) (h) (w) (v5) (1) (v4) _ hp
set_option maxRecDepth 100000 in
set_option maxHeartbeats 4000000 in
theorem p291_j202_w (F : Nat) (a0 : Int32) (a1 : Int32) (a2 : Int32) (K70 : HS → Int32 → Int32 → Option (Int32 × HS)) (hK70 : ∀ (h : HS) (w : WF h) (u4 : Int32) (u5 : Int32) (r : Int32 × HS), K70 h u4 u5 = some r → WF r.2) (h : HS) (w : WF h) (v4 : Int32) (v5 : Int32) (v6 : Int32) (r : Int32 × HS) (hp : p291_j202 F a0 a1 a2 K70 h v4 v5 v6 = some r) : WF r.2 := by
  unfold p291_j202 at hp
  by_cases hc25 : (v6) = (0 : Int32)
  · rw [if_pos hc25] at hp
    exact p291_j214_w F a0 a1 a2 (K70) (hK70) (h) (w) (v5) (0) (v4) _ hp
  · rw [if_neg hc25] at hp
    exact p291_j214_w F a0 a1 a2 (K70) (hK70) (h) (w) (v5) (1) (v4) _ hp
set_option maxRecDepth 100000 in
set_option maxHeartbeats 4000000 in
theorem p291_j167_ok (d : Nat) (F : Nat) (a0 : Int32) (a1 : Int32) (a2 : Int32) (K70 : HS → Int32 → Int32 → Option (Int32 × HS)) (K85 : HS → Int32 → Int32 → Int32 → Int32 → Option (Int32 × HS)) (hK70 : ∀ (h : HS) (w : WF h) (u4 : Int32) (u5 : Int32) (r : Int32 × HS), K70 h u4 u5 = some r → ex (d + 3) 291 (70, [some (.ref (86)), none, some (.int (a1)), some (.int (a2)), some (.int (u4)), some (.int (u5)), none, none, none], [], h) = some (some (.int (r.1)), r.2)) (hK85 : ∀ (h : HS) (w : WF h) (u4 : Int32) (u5 : Int32) (u6 : Int32) (u7 : Int32) (r : Int32 × HS), K85 h u4 u5 u6 u7 = some r → ex (d + 3) 291 (85, [some (.ref (86)), none, some (.int (a1)), some (.int (a2)), some (.int (u4)), some (.int (u5)), some (.int (u6)), some (.int (u7)), none], [], h) = some (some (.int (r.1)), r.2)) (h : HS) (w : WF h) (v4 : Int32) (v5 : Int32) (v7 : Int32) (s0 : Int32) (r : Int32 × HS) (hp : p291_j167 F a0 a1 a2 K70 K85 h v4 v5 v7 s0 = some r) : ex (d + 3) 291 (167, [some (.ref (86)), none, some (.int (a1)), some (.int (a2)), some (.int (v4)), some (.int (v5)), none, some (.int (v7)), none], [.int (s0)], h) = some (some (.int (r.1)), r.2) := by
  unfold p291_j167 at hp
  refine e_istore (ls2 := [some (.ref (86)), none, some (.int (a1)), some (.int (a2)), some (.int (v4)), some (.int (v5)), none, some (.int (v7)), some (.int (s0))]) f291_167 (Nat.le_of_ble_eq_true rfl) rfl ?_
  refine e_iload f291_169 rfl ?_
  by_cases hc30 : (s0) = (0 : Int32)
  · rw [if_pos hc30] at hp
    refine e_if_eq_t f291_171 hc30 ?_
    refine ex_weak (ls := [some (.ref (86)), none, some (.int (a1)), some (.int (a2)), some (.int (v4)), some (.int (v5)), none, some (.int (v7)), none]) (le2_ok ⟨Or.inr rfl, Or.inl rfl, Or.inr rfl, Or.inr rfl, Or.inr rfl, Or.inr rfl, Or.inl rfl, Or.inr rfl, Or.inl rfl, trivial⟩) ?_
    exact p291_j189_ok d F a0 a1 a2 (K70) (K85) (hK70) (hK85) (h) (w) (v4) (v5) (v7) _ hp
  · rw [if_neg hc30] at hp
    refine e_if_eq_f f291_171 hc30 ?_
    refine e_aload_n f291_174 rfl ?_
    refine e_iload f291_175 rfl ?_
    refine e_iload f291_177 rfl ?_
    refine e_aload_n f291_179 rfl ?_
    refine e_getI f291_180 (WF.t w 86 (by decide)) (by decide) ?_
    obtain ⟨r31, hr32, hp⟩ := bind_some hp
    try dsimp only at hp
    refine e_callV (st := []) (o := 86) (as := [.int (v7), .int (v5), .int (hI (h) (86) 1)]) f291_183 (by decide) rfl rfl (Nat.le_of_ble_eq_true rfl) (WF.t w 86 (by decide)) (Nat.le_of_ble_eq_true rfl) (p225_ok d F (h) w (v7) (v5) (hI (h) (86) 1) r31 hr32) ?_
    show ex _ 291 (186, [some (.ref (86)), none, some (.int (a1)), some (.int (a2)), some (.int (v4)), some (.int (v5)), none, some (.int (v7)), some (.int (s0))], [.int (r31)], h) = _
    by_cases hc33 : (r31) = (0 : Int32)
    · rw [if_pos hc33] at hp
      refine e_if_ne_f f291_186 hc33 ?_
      refine ex_weak (ls := [some (.ref (86)), none, some (.int (a1)), some (.int (a2)), some (.int (v4)), some (.int (v5)), none, some (.int (v7)), none]) (le2_ok ⟨Or.inr rfl, Or.inl rfl, Or.inr rfl, Or.inr rfl, Or.inr rfl, Or.inr rfl, Or.inl rfl, Or.inr rfl, Or.inl rfl, trivial⟩) ?_
      exact p291_j189_ok d F a0 a1 a2 (K70) (K85) (hK70) (hK85) (h) (w) (v4) (v5) (v7) _ hp
    · rw [if_neg hc33] at hp
      refine e_if_ne_t f291_186 hc33 ?_
      refine e_iconst (v := 0) f291_193 (by decide) ?_
      refine ex_weak (ls := [some (.ref (86)), none, some (.int (a1)), some (.int (a2)), some (.int (v4)), some (.int (v5)), none, some (.int (v7)), none]) (le2_ok ⟨Or.inr rfl, Or.inl rfl, Or.inr rfl, Or.inr rfl, Or.inr rfl, Or.inr rfl, Or.inl rfl, Or.inr rfl, Or.inl rfl, trivial⟩) ?_
      exact p291_j194_ok d F a0 a1 a2 (K70) (K85) (hK70) (hK85) (h) (w) (v4) (v5) (v7) (0) _ hp
set_option maxRecDepth 100000 in
set_option maxHeartbeats 4000000 in
theorem p291_j167_w (F : Nat) (a0 : Int32) (a1 : Int32) (a2 : Int32) (K70 : HS → Int32 → Int32 → Option (Int32 × HS)) (K85 : HS → Int32 → Int32 → Int32 → Int32 → Option (Int32 × HS)) (hK70 : ∀ (h : HS) (w : WF h) (u4 : Int32) (u5 : Int32) (r : Int32 × HS), K70 h u4 u5 = some r → WF r.2) (hK85 : ∀ (h : HS) (w : WF h) (u4 : Int32) (u5 : Int32) (u6 : Int32) (u7 : Int32) (r : Int32 × HS), K85 h u4 u5 u6 u7 = some r → WF r.2) (h : HS) (w : WF h) (v4 : Int32) (v5 : Int32) (v7 : Int32) (s0 : Int32) (r : Int32 × HS) (hp : p291_j167 F a0 a1 a2 K70 K85 h v4 v5 v7 s0 = some r) : WF r.2 := by
  unfold p291_j167 at hp
  by_cases hc30 : (s0) = (0 : Int32)
  · rw [if_pos hc30] at hp
    exact p291_j189_w F a0 a1 a2 (K70) (K85) (hK70) (hK85) (h) (w) (v4) (v5) (v7) _ hp
  · rw [if_neg hc30] at hp
    obtain ⟨r31, hr32, hp⟩ := bind_some hp
    try dsimp only at hp
    by_cases hc33 : (r31) = (0 : Int32)
    · rw [if_pos hc33] at hp
      exact p291_j189_w F a0 a1 a2 (K70) (K85) (hK70) (hK85) (h) (w) (v4) (v5) (v7) _ hp
    · rw [if_neg hc33] at hp
      exact p291_j194_w F a0 a1 a2 (K70) (K85) (hK70) (hK85) (h) (w) (v4) (v5) (v7) (0) _ hp
set_option maxRecDepth 100000 in
set_option maxHeartbeats 4000000 in
theorem p291_j162_ok (d : Nat) (F : Nat) (a0 : Int32) (a1 : Int32) (a2 : Int32) (K70 : HS → Int32 → Int32 → Option (Int32 × HS)) (K85 : HS → Int32 → Int32 → Int32 → Int32 → Option (Int32 × HS)) (hK70 : ∀ (h : HS) (w : WF h) (u4 : Int32) (u5 : Int32) (r : Int32 × HS), K70 h u4 u5 = some r → ex (d + 3) 291 (70, [some (.ref (86)), none, some (.int (a1)), some (.int (a2)), some (.int (u4)), some (.int (u5)), none, none, none], [], h) = some (some (.int (r.1)), r.2)) (hK85 : ∀ (h : HS) (w : WF h) (u4 : Int32) (u5 : Int32) (u6 : Int32) (u7 : Int32) (r : Int32 × HS), K85 h u4 u5 u6 u7 = some r → ex (d + 3) 291 (85, [some (.ref (86)), none, some (.int (a1)), some (.int (a2)), some (.int (u4)), some (.int (u5)), some (.int (u6)), some (.int (u7)), none], [], h) = some (some (.int (r.1)), r.2)) (h : HS) (w : WF h) (v4 : Int32) (v5 : Int32) (v7 : Int32) (r : Int32 × HS) (hp : p291_j162 F a0 a1 a2 K70 K85 h v4 v5 v7 = some r) : ex (d + 3) 291 (162, [some (.ref (86)), none, some (.int (a1)), some (.int (a2)), some (.int (v4)), some (.int (v5)), none, some (.int (v7)), none], [], h) = some (some (.int (r.1)), r.2) := by
  unfold p291_j162 at hp
  refine e_iconst (v := 1) f291_162 (by decide) ?_
  refine e_goto f291_163 ?_
  refine ex_weak (ls := [some (.ref (86)), none, some (.int (a1)), some (.int (a2)), some (.int (v4)), some (.int (v5)), none, some (.int (v7)), none]) (le2_ok ⟨Or.inr rfl, Or.inl rfl, Or.inr rfl, Or.inr rfl, Or.inr rfl, Or.inr rfl, Or.inl rfl, Or.inr rfl, Or.inl rfl, trivial⟩) ?_
  exact p291_j167_ok d F a0 a1 a2 (K70) (K85) (hK70) (hK85) (h) (w) (v4) (v5) (v7) (1) _ hp
set_option maxRecDepth 100000 in
set_option maxHeartbeats 4000000 in
theorem p291_j162_w (F : Nat) (a0 : Int32) (a1 : Int32) (a2 : Int32) (K70 : HS → Int32 → Int32 → Option (Int32 × HS)) (K85 : HS → Int32 → Int32 → Int32 → Int32 → Option (Int32 × HS)) (hK70 : ∀ (h : HS) (w : WF h) (u4 : Int32) (u5 : Int32) (r : Int32 × HS), K70 h u4 u5 = some r → WF r.2) (hK85 : ∀ (h : HS) (w : WF h) (u4 : Int32) (u5 : Int32) (u6 : Int32) (u7 : Int32) (r : Int32 × HS), K85 h u4 u5 u6 u7 = some r → WF r.2) (h : HS) (w : WF h) (v4 : Int32) (v5 : Int32) (v7 : Int32) (r : Int32 × HS) (hp : p291_j162 F a0 a1 a2 K70 K85 h v4 v5 v7 = some r) : WF r.2 := by
  unfold p291_j162 at hp
  exact p291_j167_w F a0 a1 a2 (K70) (K85) (hK70) (hK85) (h) (w) (v4) (v5) (v7) (1) _ hp
set_option maxRecDepth 100000 in
set_option maxHeartbeats 4000000 in
theorem p291_j166_ok (d : Nat) (F : Nat) (a0 : Int32) (a1 : Int32) (a2 : Int32) (K70 : HS → Int32 → Int32 → Option (Int32 × HS)) (K85 : HS → Int32 → Int32 → Int32 → Int32 → Option (Int32 × HS)) (hK70 : ∀ (h : HS) (w : WF h) (u4 : Int32) (u5 : Int32) (r : Int32 × HS), K70 h u4 u5 = some r → ex (d + 3) 291 (70, [some (.ref (86)), none, some (.int (a1)), some (.int (a2)), some (.int (u4)), some (.int (u5)), none, none, none], [], h) = some (some (.int (r.1)), r.2)) (hK85 : ∀ (h : HS) (w : WF h) (u4 : Int32) (u5 : Int32) (u6 : Int32) (u7 : Int32) (r : Int32 × HS), K85 h u4 u5 u6 u7 = some r → ex (d + 3) 291 (85, [some (.ref (86)), none, some (.int (a1)), some (.int (a2)), some (.int (u4)), some (.int (u5)), some (.int (u6)), some (.int (u7)), none], [], h) = some (some (.int (r.1)), r.2)) (h : HS) (w : WF h) (v4 : Int32) (v5 : Int32) (v7 : Int32) (r : Int32 × HS) (hp : p291_j166 F a0 a1 a2 K70 K85 h v4 v5 v7 = some r) : ex (d + 3) 291 (166, [some (.ref (86)), none, some (.int (a1)), some (.int (a2)), some (.int (v4)), some (.int (v5)), none, some (.int (v7)), none], [], h) = some (some (.int (r.1)), r.2) := by
  unfold p291_j166 at hp
  refine e_iconst (v := 0) f291_166 (by decide) ?_
  refine ex_weak (ls := [some (.ref (86)), none, some (.int (a1)), some (.int (a2)), some (.int (v4)), some (.int (v5)), none, some (.int (v7)), none]) (le2_ok ⟨Or.inr rfl, Or.inl rfl, Or.inr rfl, Or.inr rfl, Or.inr rfl, Or.inr rfl, Or.inl rfl, Or.inr rfl, Or.inl rfl, trivial⟩) ?_
  exact p291_j167_ok d F a0 a1 a2 (K70) (K85) (hK70) (hK85) (h) (w) (v4) (v5) (v7) (0) _ hp
set_option maxRecDepth 100000 in
set_option maxHeartbeats 4000000 in
theorem p291_j166_w (F : Nat) (a0 : Int32) (a1 : Int32) (a2 : Int32) (K70 : HS → Int32 → Int32 → Option (Int32 × HS)) (K85 : HS → Int32 → Int32 → Int32 → Int32 → Option (Int32 × HS)) (hK70 : ∀ (h : HS) (w : WF h) (u4 : Int32) (u5 : Int32) (r : Int32 × HS), K70 h u4 u5 = some r → WF r.2) (hK85 : ∀ (h : HS) (w : WF h) (u4 : Int32) (u5 : Int32) (u6 : Int32) (u7 : Int32) (r : Int32 × HS), K85 h u4 u5 u6 u7 = some r → WF r.2) (h : HS) (w : WF h) (v4 : Int32) (v5 : Int32) (v7 : Int32) (r : Int32 × HS) (hp : p291_j166 F a0 a1 a2 K70 K85 h v4 v5 v7 = some r) : WF r.2 := by
  unfold p291_j166 at hp
  exact p291_j167_w F a0 a1 a2 (K70) (K85) (hK70) (hK85) (h) (w) (v4) (v5) (v7) (0) _ hp
set_option maxRecDepth 100000 in
set_option maxHeartbeats 4000000 in
theorem p291_j138_ok (d : Nat) (F : Nat) (a0 : Int32) (a1 : Int32) (a2 : Int32) (K70 : HS → Int32 → Int32 → Option (Int32 × HS)) (K85 : HS → Int32 → Int32 → Int32 → Int32 → Option (Int32 × HS)) (hK70 : ∀ (h : HS) (w : WF h) (u4 : Int32) (u5 : Int32) (r : Int32 × HS), K70 h u4 u5 = some r → ex (d + 3) 291 (70, [some (.ref (86)), none, some (.int (a1)), some (.int (a2)), some (.int (u4)), some (.int (u5)), none, none, none], [], h) = some (some (.int (r.1)), r.2)) (hK85 : ∀ (h : HS) (w : WF h) (u4 : Int32) (u5 : Int32) (u6 : Int32) (u7 : Int32) (r : Int32 × HS), K85 h u4 u5 u6 u7 = some r → ex (d + 3) 291 (85, [some (.ref (86)), none, some (.int (a1)), some (.int (a2)), some (.int (u4)), some (.int (u5)), some (.int (u6)), some (.int (u7)), none], [], h) = some (some (.int (r.1)), r.2)) (h : HS) (w : WF h) (v4 : Int32) (v5 : Int32) (v7 : Int32) (r : Int32 × HS) (hp : p291_j138 F a0 a1 a2 K70 K85 h v4 v5 v7 = some r) : ex (d + 3) 291 (138, [some (.ref (86)), none, some (.int (a1)), some (.int (a2)), some (.int (v4)), some (.int (v5)), none, some (.int (v7)), none], [], h) = some (some (.int (r.1)), r.2) := by
  unfold p291_j138 at hp
  refine e_aload_n f291_138 rfl ?_
  refine e_getR f291_139 (WF.t w 86 (by decide)) rfl (WF.r (q := 111) w 86 36 (by decide)) ?_
  refine e_iload f291_142 rfl ?_
  by_cases hg26 : (v7) < (0 : Int32) ∨ 200 ≤ (v7).toNatClampNeg
  · rw [if_pos hg26] at hp; cases hp
  rw [if_neg hg26] at hp
  refine e_iaload f291_144 (Or.inl (WF.t w 111 (by decide))) (WF.n w 111 (by decide)) hg26 ?_
  refine e_iload_n f291_145 rfl ?_
  by_cases hc27 : (hI (h) (111) (v7).toNatClampNeg) = ((a2) : Int32)
  · rw [if_pos hc27] at hp
    refine e_icmp_ne_f f291_146 hc27 ?_
    refine e_aload_n f291_149 rfl ?_
    refine e_getR f291_150 (WF.t w 86 (by decide)) rfl (WF.r (q := 119) w 86 44 (by decide)) ?_
    refine e_iload f291_153 rfl ?_
    by_cases hg28 : (v7) < (0 : Int32) ∨ 200 ≤ (v7).toNatClampNeg
    · rw [if_pos hg28] at hp; cases hp
    rw [if_neg hg28] at hp
    refine e_iaload f291_155 (Or.inl (WF.t w 119 (by decide))) (WF.n w 119 (by decide)) hg28 ?_
    refine e_ldcw (v := 100000) f291_156 (by decide) (by decide) ?_
    by_cases hc29 : (hI (h) (119) (v7).toNatClampNeg) = ((100000) : Int32)
    · rw [if_pos hc29] at hp
      refine e_icmp_ne_f f291_159 hc29 ?_
      refine ex_weak (ls := [some (.ref (86)), none, some (.int (a1)), some (.int (a2)), some (.int (v4)), some (.int (v5)), none, some (.int (v7)), none]) (le2_ok ⟨Or.inr rfl, Or.inl rfl, Or.inr rfl, Or.inr rfl, Or.inr rfl, Or.inr rfl, Or.inl rfl, Or.inr rfl, Or.inl rfl, trivial⟩) ?_
      exact p291_j162_ok d F a0 a1 a2 (K70) (K85) (hK70) (hK85) (h) (w) (v4) (v5) (v7) _ hp
    · rw [if_neg hc29] at hp
      refine e_icmp_ne_t f291_159 hc29 ?_
      refine ex_weak (ls := [some (.ref (86)), none, some (.int (a1)), some (.int (a2)), some (.int (v4)), some (.int (v5)), none, some (.int (v7)), none]) (le2_ok ⟨Or.inr rfl, Or.inl rfl, Or.inr rfl, Or.inr rfl, Or.inr rfl, Or.inr rfl, Or.inl rfl, Or.inr rfl, Or.inl rfl, trivial⟩) ?_
      exact p291_j166_ok d F a0 a1 a2 (K70) (K85) (hK70) (hK85) (h) (w) (v4) (v5) (v7) _ hp
  · rw [if_neg hc27] at hp
    refine e_icmp_ne_t f291_146 hc27 ?_
    refine ex_weak (ls := [some (.ref (86)), none, some (.int (a1)), some (.int (a2)), some (.int (v4)), some (.int (v5)), none, some (.int (v7)), none]) (le2_ok ⟨Or.inr rfl, Or.inl rfl, Or.inr rfl, Or.inr rfl, Or.inr rfl, Or.inr rfl, Or.inl rfl, Or.inr rfl, Or.inl rfl, trivial⟩) ?_
    exact p291_j166_ok d F a0 a1 a2 (K70) (K85) (hK70) (hK85) (h) (w) (v4) (v5) (v7) _ hp
set_option maxRecDepth 100000 in
set_option maxHeartbeats 4000000 in
theorem p291_j138_w (F : Nat) (a0 : Int32) (a1 : Int32) (a2 : Int32) (K70 : HS → Int32 → Int32 → Option (Int32 × HS)) (K85 : HS → Int32 → Int32 → Int32 → Int32 → Option (Int32 × HS)) (hK70 : ∀ (h : HS) (w : WF h) (u4 : Int32) (u5 : Int32) (r : Int32 × HS), K70 h u4 u5 = some r → WF r.2) (hK85 : ∀ (h : HS) (w : WF h) (u4 : Int32) (u5 : Int32) (u6 : Int32) (u7 : Int32) (r : Int32 × HS), K85 h u4 u5 u6 u7 = some r → WF r.2) (h : HS) (w : WF h) (v4 : Int32) (v5 : Int32) (v7 : Int32) (r : Int32 × HS) (hp : p291_j138 F a0 a1 a2 K70 K85 h v4 v5 v7 = some r) : WF r.2 := by
  unfold p291_j138 at hp
  by_cases hg26 : (v7) < (0 : Int32) ∨ 200 ≤ (v7).toNatClampNeg
  · rw [if_pos hg26] at hp; cases hp
  rw [if_neg hg26] at hp
  by_cases hc27 : (hI (h) (111) (v7).toNatClampNeg) = ((a2) : Int32)
  · rw [if_pos hc27] at hp
    by_cases hg28 : (v7) < (0 : Int32) ∨ 200 ≤ (v7).toNatClampNeg
    · rw [if_pos hg28] at hp; cases hp
    rw [if_neg hg28] at hp
    by_cases hc29 : (hI (h) (119) (v7).toNatClampNeg) = ((100000) : Int32)
    · rw [if_pos hc29] at hp
      exact p291_j162_w F a0 a1 a2 (K70) (K85) (hK70) (hK85) (h) (w) (v4) (v5) (v7) _ hp
    · rw [if_neg hc29] at hp
      exact p291_j166_w F a0 a1 a2 (K70) (K85) (hK70) (hK85) (h) (w) (v4) (v5) (v7) _ hp
  · rw [if_neg hc27] at hp
    exact p291_j166_w F a0 a1 a2 (K70) (K85) (hK70) (hK85) (h) (w) (v4) (v5) (v7) _ hp
set_option maxRecDepth 100000 in
set_option maxHeartbeats 4000000 in
theorem p291_L85_ok (d : Nat) (F : Nat) (a0 : Int32) (a1 : Int32) (a2 : Int32) (K70 : HS → Int32 → Int32 → Option (Int32 × HS)) (hK70 : ∀ (h : HS) (w : WF h) (u4 : Int32) (u5 : Int32) (r : Int32 × HS), K70 h u4 u5 = some r → ex (d + 3) 291 (70, [some (.ref (86)), none, some (.int (a1)), some (.int (a2)), some (.int (u4)), some (.int (u5)), none, none, none], [], h) = some (some (.int (r.1)), r.2)) : ∀ (n : Nat) (h : HS) (w : WF h) (v4 : Int32) (v5 : Int32) (v6 : Int32) (v7 : Int32) (r : Int32 × HS), p291_L85 F a0 a1 a2 K70 n h v4 v5 v6 v7 = some r → ex (d + 3) 291 (85, [some (.ref (86)), none, some (.int (a1)), some (.int (a2)), some (.int (v4)), some (.int (v5)), some (.int (v6)), some (.int (v7)), none], [], h) = some (some (.int (r.1)), r.2) := by
  intro n
  induction n with
  | zero => intro h w v4 v5 v6 v7 r hp; cases hp
  | succ n ih =>
    intro h w v4 v5 v6 v7 r hp
    unfold p291_L85 at hp
    refine e_iload f291_85 rfl ?_
    refine e_aload_n f291_87 rfl ?_
    refine e_getI f291_88 (WF.t w 86 (by decide)) (by decide) ?_
    by_cases hc15 : (v7) < ((hI (h) (86) 32) : Int32)
    · rw [if_pos hc15] at hp
      refine e_icmp_ge_f f291_91 hc15 ?_
      refine e_iload f291_94 rfl ?_
      by_cases hc16 : (v6) = (0 : Int32)
      · rw [if_pos hc16] at hp
        refine e_if_eq_t f291_96 hc16 ?_
        refine ex_weak (ls := [some (.ref (86)), none, some (.int (a1)), some (.int (a2)), some (.int (v4)), some (.int (v5)), some (.int (v6)), none, none]) (le2_ok ⟨Or.inr rfl, Or.inl rfl, Or.inr rfl, Or.inr rfl, Or.inr rfl, Or.inr rfl, Or.inr rfl, Or.inl rfl, Or.inl rfl, trivial⟩) ?_
        exact p291_j202_ok d F a0 a1 a2 (K70) (hK70) (h) (w) (v4) (v5) (v6) _ hp
      · rw [if_neg hc16] at hp
        refine e_if_eq_f f291_96 hc16 ?_
        refine e_aload_n f291_99 rfl ?_
        refine e_getR f291_100 (WF.t w 86 (by decide)) rfl (WF.r (q := 112) w 86 37 (by decide)) ?_
        refine e_iload f291_103 rfl ?_
        by_cases hg17 : (v7) < (0 : Int32) ∨ 200 ≤ (v7).toNatClampNeg
        · rw [if_pos hg17] at hp; cases hp
        rw [if_neg hg17] at hp
        refine e_iaload f291_105 (Or.inl (WF.t w 112 (by decide))) (WF.n w 112 (by decide)) hg17 ?_
        refine e_iload_n f291_106 rfl ?_
        by_cases hc18 : (hI (h) (112) (v7).toNatClampNeg) = ((a1) : Int32)
        · rw [if_pos hc18] at hp
          refine e_icmp_ne_f f291_107 hc18 ?_
          refine e_aload_n f291_110 rfl ?_
          refine e_getR f291_111 (WF.t w 86 (by decide)) rfl (WF.r (q := 148) w 86 84 (by decide)) ?_
          refine e_aload_n f291_114 rfl ?_
          refine e_getR f291_115 (WF.t w 86 (by decide)) rfl (WF.r (q := 111) w 86 36 (by decide)) ?_
          refine e_iload f291_118 rfl ?_
          by_cases hg19 : (v7) < (0 : Int32) ∨ 200 ≤ (v7).toNatClampNeg
          · rw [if_pos hg19] at hp; cases hp
          rw [if_neg hg19] at hp
          refine e_iaload f291_120 (Or.inl (WF.t w 111 (by decide))) (WF.n w 111 (by decide)) hg19 ?_
          by_cases hg20 : (hI (h) (111) (v7).toNatClampNeg) < (0 : Int32) ∨ 200 ≤ (hI (h) (111) (v7).toNatClampNeg).toNatClampNeg
          · rw [if_pos hg20] at hp; cases hp
          rw [if_neg hg20] at hp
          refine e_baload f291_121 (Or.inr (WF.t w 148 (by decide))) (WF.n w 148 (by decide)) hg20 ?_
          by_cases hc21 : (hI (h) (148) (hI (h) (111) (v7).toNatClampNeg).toNatClampNeg) = (0 : Int32)
          · rw [if_pos hc21] at hp
            refine e_if_eq_t f291_122 hc21 ?_
            refine ex_weak (ls := [some (.ref (86)), none, some (.int (a1)), some (.int (a2)), some (.int (v4)), some (.int (v5)), none, some (.int (v7)), none]) (le2_ok ⟨Or.inr rfl, Or.inl rfl, Or.inr rfl, Or.inr rfl, Or.inr rfl, Or.inr rfl, Or.inl rfl, Or.inr rfl, Or.inl rfl, trivial⟩) ?_
            exact p291_j138_ok d F a0 a1 a2 (K70) ((p291_L85 F a0 a1 a2 K70 n)) (hK70) (ih) (h) (w) (v4) (v5) (v7) _ hp
          · rw [if_neg hc21] at hp
            refine e_if_eq_f f291_122 hc21 ?_
            refine e_aload_n f291_125 rfl ?_
            refine e_iload f291_126 rfl ?_
            refine e_aload_n f291_128 rfl ?_
            refine e_getI f291_129 (WF.t w 86 (by decide)) (by decide) ?_
            obtain ⟨r22, hr23, hp⟩ := bind_some hp
            try dsimp only at hp
            refine e_callV (st := []) (o := 86) (as := [.int (v7), .int (hI (h) (86) 1)]) f291_132 (by decide) rfl rfl (Nat.le_of_ble_eq_true rfl) (WF.t w 86 (by decide)) (Nat.le_of_ble_eq_true rfl) (p222_ok (d + 2) (h) w (v7) (hI (h) (86) 1) r22 hr23) ?_
            show ex _ 291 (135, [some (.ref (86)), none, some (.int (a1)), some (.int (a2)), some (.int (v4)), some (.int (v5)), some (.int (v6)), some (.int (v7)), none], [.int (r22)], h) = _
            by_cases hc24 : (r22) = (0 : Int32)
            · rw [if_pos hc24] at hp
              refine e_if_ne_f f291_135 hc24 ?_
              refine ex_weak (ls := [some (.ref (86)), none, some (.int (a1)), some (.int (a2)), some (.int (v4)), some (.int (v5)), none, some (.int (v7)), none]) (le2_ok ⟨Or.inr rfl, Or.inl rfl, Or.inr rfl, Or.inr rfl, Or.inr rfl, Or.inr rfl, Or.inl rfl, Or.inr rfl, Or.inl rfl, trivial⟩) ?_
              exact p291_j138_ok d F a0 a1 a2 (K70) ((p291_L85 F a0 a1 a2 K70 n)) (hK70) (ih) (h) (w) (v4) (v5) (v7) _ hp
            · rw [if_neg hc24] at hp
              refine e_if_ne_t f291_135 hc24 ?_
              refine ex_weak (ls := [some (.ref (86)), none, some (.int (a1)), some (.int (a2)), some (.int (v4)), some (.int (v5)), none, some (.int (v7)), none]) (le2_ok ⟨Or.inr rfl, Or.inl rfl, Or.inr rfl, Or.inr rfl, Or.inr rfl, Or.inr rfl, Or.inl rfl, Or.inr rfl, Or.inl rfl, trivial⟩) ?_
              exact p291_j162_ok d F a0 a1 a2 (K70) ((p291_L85 F a0 a1 a2 K70 n)) (hK70) (ih) (h) (w) (v4) (v5) (v7) _ hp
        · rw [if_neg hc18] at hp
          refine e_icmp_ne_t f291_107 hc18 ?_
          refine ex_weak (ls := [some (.ref (86)), none, some (.int (a1)), some (.int (a2)), some (.int (v4)), some (.int (v5)), none, some (.int (v7)), none]) (le2_ok ⟨Or.inr rfl, Or.inl rfl, Or.inr rfl, Or.inr rfl, Or.inr rfl, Or.inr rfl, Or.inl rfl, Or.inr rfl, Or.inl rfl, trivial⟩) ?_
          exact p291_j166_ok d F a0 a1 a2 (K70) ((p291_L85 F a0 a1 a2 K70 n)) (hK70) (ih) (h) (w) (v4) (v5) (v7) _ hp
    · rw [if_neg hc15] at hp
      refine e_icmp_ge_t f291_91 hc15 ?_
      refine ex_weak (ls := [some (.ref (86)), none, some (.int (a1)), some (.int (a2)), some (.int (v4)), some (.int (v5)), some (.int (v6)), none, none]) (le2_ok ⟨Or.inr rfl, Or.inl rfl, Or.inr rfl, Or.inr rfl, Or.inr rfl, Or.inr rfl, Or.inr rfl, Or.inl rfl, Or.inl rfl, trivial⟩) ?_
      exact p291_j202_ok d F a0 a1 a2 (K70) (hK70) (h) (w) (v4) (v5) (v6) _ hp
set_option maxRecDepth 100000 in
set_option maxHeartbeats 4000000 in
theorem p291_L85_w (F : Nat) (a0 : Int32) (a1 : Int32) (a2 : Int32) (K70 : HS → Int32 → Int32 → Option (Int32 × HS)) (hK70 : ∀ (h : HS) (w : WF h) (u4 : Int32) (u5 : Int32) (r : Int32 × HS), K70 h u4 u5 = some r → WF r.2) : ∀ (n : Nat) (h : HS) (w : WF h) (v4 : Int32) (v5 : Int32) (v6 : Int32) (v7 : Int32) (r : Int32 × HS), p291_L85 F a0 a1 a2 K70 n h v4 v5 v6 v7 = some r → WF r.2 := by
  intro n
  induction n with
  | zero => intro h w v4 v5 v6 v7 r hp; cases hp
  | succ n ih =>
    intro h w v4 v5 v6 v7 r hp
    unfold p291_L85 at hp
    by_cases hc15 : (v7) < ((hI (h) (86) 32) : Int32)
    · rw [if_pos hc15] at hp
      by_cases hc16 : (v6) = (0 : Int32)
      · rw [if_pos hc16] at hp
        exact p291_j202_w F a0 a1 a2 (K70) (hK70) (h) (w) (v4) (v5) (v6) _ hp
      · rw [if_neg hc16] at hp
        by_cases hg17 : (v7) < (0 : Int32) ∨ 200 ≤ (v7).toNatClampNeg
        · rw [if_pos hg17] at hp; cases hp
        rw [if_neg hg17] at hp
        by_cases hc18 : (hI (h) (112) (v7).toNatClampNeg) = ((a1) : Int32)
        · rw [if_pos hc18] at hp
          by_cases hg19 : (v7) < (0 : Int32) ∨ 200 ≤ (v7).toNatClampNeg
          · rw [if_pos hg19] at hp; cases hp
          rw [if_neg hg19] at hp
          by_cases hg20 : (hI (h) (111) (v7).toNatClampNeg) < (0 : Int32) ∨ 200 ≤ (hI (h) (111) (v7).toNatClampNeg).toNatClampNeg
          · rw [if_pos hg20] at hp; cases hp
          rw [if_neg hg20] at hp
          by_cases hc21 : (hI (h) (148) (hI (h) (111) (v7).toNatClampNeg).toNatClampNeg) = (0 : Int32)
          · rw [if_pos hc21] at hp
            exact p291_j138_w F a0 a1 a2 (K70) ((p291_L85 F a0 a1 a2 K70 n)) (hK70) (ih) (h) (w) (v4) (v5) (v7) _ hp
          · rw [if_neg hc21] at hp
            obtain ⟨r22, hr23, hp⟩ := bind_some hp
            try dsimp only at hp
            by_cases hc24 : (r22) = (0 : Int32)
            · rw [if_pos hc24] at hp
              exact p291_j138_w F a0 a1 a2 (K70) ((p291_L85 F a0 a1 a2 K70 n)) (hK70) (ih) (h) (w) (v4) (v5) (v7) _ hp
            · rw [if_neg hc24] at hp
              exact p291_j162_w F a0 a1 a2 (K70) ((p291_L85 F a0 a1 a2 K70 n)) (hK70) (ih) (h) (w) (v4) (v5) (v7) _ hp
        · rw [if_neg hc18] at hp
          exact p291_j166_w F a0 a1 a2 (K70) ((p291_L85 F a0 a1 a2 K70 n)) (hK70) (ih) (h) (w) (v4) (v5) (v7) _ hp
    · rw [if_neg hc15] at hp
      exact p291_j202_w F a0 a1 a2 (K70) (hK70) (h) (w) (v4) (v5) (v6) _ hp
set_option maxRecDepth 100000 in
set_option maxHeartbeats 4000000 in
theorem p291_L70_ok (d : Nat) (F : Nat) (a0 : Int32) (a1 : Int32) (a2 : Int32) : ∀ (n : Nat) (h : HS) (w : WF h) (v4 : Int32) (v5 : Int32) (r : Int32 × HS), p291_L70 F a0 a1 a2 n h v4 v5 = some r → ex (d + 3) 291 (70, [some (.ref (86)), none, some (.int (a1)), some (.int (a2)), some (.int (v4)), some (.int (v5)), none, none, none], [], h) = some (some (.int (r.1)), r.2) := by
  intro n
  induction n with
  | zero => intro h w v4 v5 r hp; cases hp
  | succ n ih =>
    intro h w v4 v5 r hp
    unfold p291_L70 at hp
    refine e_iload f291_70 rfl ?_
    refine e_aload_n f291_72 rfl ?_
    refine e_getI f291_73 (WF.t w 86 (by decide)) (by decide) ?_
    by_cases hc14 : (v5) < ((hI (h) (86) 20) : Int32)
    · rw [if_pos hc14] at hp
      refine e_icmp_ge_f f291_76 hc14 ?_
      refine e_iconst (v := 1) f291_79 (by decide) ?_
      refine e_istore (ls2 := [some (.ref (86)), none, some (.int (a1)), some (.int (a2)), some (.int (v4)), some (.int (v5)), some (.int (1)), none, none]) f291_80 (Nat.le_of_ble_eq_true rfl) rfl ?_
      refine e_iconst (v := 0) f291_82 (by decide) ?_
      refine e_istore (ls2 := [some (.ref (86)), none, some (.int (a1)), some (.int (a2)), some (.int (v4)), some (.int (v5)), some (.int (1)), some (.int (0)), none]) f291_83 (Nat.le_of_ble_eq_true rfl) rfl ?_
      refine ex_weak (ls := [some (.ref (86)), none, some (.int (a1)), some (.int (a2)), some (.int (v4)), some (.int (v5)), some (.int (1)), some (.int (0)), none]) (le2_ok ⟨Or.inr rfl, Or.inl rfl, Or.inr rfl, Or.inr rfl, Or.inr rfl, Or.inr rfl, Or.inr rfl, Or.inr rfl, Or.inl rfl, trivial⟩) ?_
      exact p291_L85_ok d F a0 a1 a2 ((p291_L70 F a0 a1 a2 n)) (ih) F (h) (w) (v4) (v5) (1) (0) _ hp
    · rw [if_neg hc14] at hp
      refine e_icmp_ge_t f291_76 hc14 ?_
      refine e_iload f291_223 rfl ?_
      have hp := Option.some.inj hp
      subst hp
      exact e_ireturn f291_225 (Or.inl rfl)
set_option maxRecDepth 100000 in
set_option maxHeartbeats 4000000 in
theorem p291_L70_w (F : Nat) (a0 : Int32) (a1 : Int32) (a2 : Int32) : ∀ (n : Nat) (h : HS) (w : WF h) (v4 : Int32) (v5 : Int32) (r : Int32 × HS), p291_L70 F a0 a1 a2 n h v4 v5 = some r → WF r.2 := by
  intro n
  induction n with
  | zero => intro h w v4 v5 r hp; cases hp
  | succ n ih =>
    intro h w v4 v5 r hp
    unfold p291_L70 at hp
    by_cases hc14 : (v5) < ((hI (h) (86) 20) : Int32)
    · rw [if_pos hc14] at hp
      exact p291_L85_w F a0 a1 a2 ((p291_L70 F a0 a1 a2 n)) (ih) F (h) (w) (v4) (v5) (1) (0) _ hp
    · rw [if_neg hc14] at hp
      have hp := Option.some.inj hp
      subst hp
      exact (w)
set_option maxRecDepth 100000 in
set_option maxHeartbeats 4000000 in
theorem p291_L35_ok (d : Nat) (F : Nat) (a0 : Int32) (a1 : Int32) (a2 : Int32) : ∀ (n : Nat) (h : HS) (w : WF h) (v4 : Int32) (r : Int32 × HS), p291_L35 F a0 a1 a2 n h v4 = some r → ex (d + 3) 291 (35, [some (.ref (86)), some (.int (a0)), some (.int (a1)), some (.int (a2)), some (.int (v4)), none, none, none, none], [], h) = some (some (.int (r.1)), r.2) := by
  intro n
  induction n with
  | zero => intro h w v4 r hp; cases hp
  | succ n ih =>
    intro h w v4 r hp
    unfold p291_L35 at hp
    refine e_iload f291_35 rfl ?_
    refine e_aload_n f291_37 rfl ?_
    refine e_getI f291_38 (WF.t w 86 (by decide)) (by decide) ?_
    by_cases hc10 : (v4) < ((hI (h) (86) 14) : Int32)
    · rw [if_pos hc10] at hp
      refine e_icmp_ge_f f291_41 hc10 ?_
      refine e_aload_n f291_44 rfl ?_
      refine e_getR f291_45 (WF.t w 86 (by decide)) rfl (WF.r (q := 148) w 86 84 (by decide)) ?_
      refine e_iload f291_48 rfl ?_
      refine e_aload_n f291_50 rfl ?_
      refine e_iload_n f291_51 rfl ?_
      refine e_iload f291_52 rfl ?_
      obtain ⟨r11, hr12, hp⟩ := bind_some hp
      try dsimp only at hp
      refine e_callV (st := [.int (v4), .ref (148)]) (o := 86) (as := [.int (a0), .int (v4)]) f291_54 (by decide) rfl rfl (Nat.le_of_ble_eq_true rfl) (WF.t w 86 (by decide)) (Nat.le_of_ble_eq_true rfl) (p290_ok (d + 2) F (h) w (a0) (v4) r11 hr12) ?_
      show ex _ 291 (57, [some (.ref (86)), some (.int (a0)), some (.int (a1)), some (.int (a2)), some (.int (v4)), none, none, none, none], [.int (r11), .int (v4), .ref (148)], h) = _
      by_cases hg13 : (v4) < (0 : Int32) ∨ 200 ≤ (v4).toNatClampNeg
      · rw [if_pos hg13] at hp; cases hp
      rw [if_neg hg13] at hp
      refine e_zastore f291_57 (WF.t w 148 (by decide)) (WF.n w 148 (by decide)) hg13 ?_
      refine e_iinc (ls2 := [some (.ref (86)), some (.int (a0)), some (.int (a1)), some (.int (a2)), some (.int ((v4) + 1)), none, none, none, none]) f291_58 (by decide) rfl rfl ?_
      refine e_goto f291_61 ?_
      refine ex_weak (ls := [some (.ref (86)), some (.int (a0)), some (.int (a1)), some (.int (a2)), some (.int ((v4) + 1)), none, none, none, none]) (le2_ok ⟨Or.inr rfl, Or.inr rfl, Or.inr rfl, Or.inr rfl, Or.inr rfl, Or.inl rfl, Or.inl rfl, Or.inl rfl, Or.inl rfl, trivial⟩) ?_
      exact ih (hsI (h) (148) (v4).toNatClampNeg (vp_nar .boolean (r11))) (w) ((v4) + 1) _ hp
    · rw [if_neg hc10] at hp
      refine e_icmp_ge_t f291_41 hc10 ?_
      refine e_iconst (v := 0) f291_64 (by decide) ?_
      refine e_istore (ls2 := [some (.ref (86)), some (.int (a0)), some (.int (a1)), some (.int (a2)), some (.int (0)), none, none, none, none]) f291_65 (Nat.le_of_ble_eq_true rfl) rfl ?_
      refine e_iconst (v := 0) f291_67 (by decide) ?_
      refine e_istore (ls2 := [some (.ref (86)), some (.int (a0)), some (.int (a1)), some (.int (a2)), some (.int (0)), some (.int (0)), none, none, none]) f291_68 (Nat.le_of_ble_eq_true rfl) rfl ?_
      refine ex_weak (ls := [some (.ref (86)), none, some (.int (a1)), some (.int (a2)), some (.int (0)), some (.int (0)), none, none, none]) (le2_ok ⟨Or.inr rfl, Or.inl rfl, Or.inr rfl, Or.inr rfl, Or.inr rfl, Or.inr rfl, Or.inl rfl, Or.inl rfl, Or.inl rfl, trivial⟩) ?_
      exact p291_L70_ok d F a0 a1 a2 F (h) (w) (0) (0) _ hp
set_option maxRecDepth 100000 in
set_option maxHeartbeats 4000000 in
theorem p291_L35_w (F : Nat) (a0 : Int32) (a1 : Int32) (a2 : Int32) : ∀ (n : Nat) (h : HS) (w : WF h) (v4 : Int32) (r : Int32 × HS), p291_L35 F a0 a1 a2 n h v4 = some r → WF r.2 := by
  intro n
  induction n with
  | zero => intro h w v4 r hp; cases hp
  | succ n ih =>
    intro h w v4 r hp
    unfold p291_L35 at hp
    by_cases hc10 : (v4) < ((hI (h) (86) 14) : Int32)
    · rw [if_pos hc10] at hp
      obtain ⟨r11, hr12, hp⟩ := bind_some hp
      try dsimp only at hp
      by_cases hg13 : (v4) < (0 : Int32) ∨ 200 ≤ (v4).toNatClampNeg
      · rw [if_pos hg13] at hp; cases hp
      rw [if_neg hg13] at hp
      exact ih (hsI (h) (148) (v4).toNatClampNeg (vp_nar .boolean (r11))) (w) ((v4) + 1) _ hp
    · rw [if_neg hc10] at hp
      exact p291_L70_w F a0 a1 a2 F (h) (w) (0) (0) _ hp
set_option maxRecDepth 100000 in
set_option maxHeartbeats 4000000 in
theorem p291_ok (d : Nat) (F : Nat) (h : HS) (w : WF h) (a0 : Int32) (a1 : Int32) (a2 : Int32) (r : Int32 × HS) (hp : p291 F h a0 a1 a2 = some r) : ex (d + 3) 291 (ent 291 [.ref (86), .int (a0), .int (a1), .int (a2)] h) = some (some (.int (r.1)), r.2) := by
  rw [show ent 291 [.ref (86), .int (a0), .int (a1), .int (a2)] h = (0, [some (.ref (86)), some (.int (a0)), some (.int (a1)), some (.int (a2)), none, none, none, none, none], [], h) from by  rfl]
  refine ex_weak (ls := [some (.ref (86)), some (.int (a0)), some (.int (a1)), some (.int (a2)), none, none, none, none, none]) (le2_ok ⟨Or.inr rfl, Or.inr rfl, Or.inr rfl, Or.inr rfl, Or.inr rfl, Or.inr rfl, Or.inr rfl, Or.inr rfl, Or.inr rfl, trivial⟩) ?_
  unfold p291 at hp
  refine e_aload_n f291_0 rfl ?_
  refine e_iload_n f291_1 rfl ?_
  obtain ⟨r1, hr2, hp⟩ := bind_some hp
  try dsimp only at hp
  refine e_callV (st := []) (o := 86) (as := [.int (a0)]) f291_2 (by decide) rfl rfl (Nat.le_of_ble_eq_true rfl) (WF.t w 86 (by decide)) (Nat.le_of_ble_eq_true rfl) (p277_ok (d + 1) (h) w (a0) r1 hr2) ?_
  show ex _ 291 (5, [some (.ref (86)), some (.int (a0)), some (.int (a1)), some (.int (a2)), none, none, none, none, none], [.int (r1)], h) = _
  by_cases hc3 : (r1) = (0 : Int32)
  · rw [if_pos hc3] at hp
    refine e_if_eq_t f291_5 hc3 ?_
    refine e_iconst (v := -1) f291_30 (by decide) ?_
    have hp := Option.some.inj hp
    subst hp
    exact e_ireturn f291_31 (Or.inl rfl)
  · rw [if_neg hc3] at hp
    refine e_if_eq_f f291_5 hc3 ?_
    refine e_aload_n f291_8 rfl ?_
    refine e_iload_n f291_9 rfl ?_
    obtain ⟨r4, hr5, hp⟩ := bind_some hp
    try dsimp only at hp
    refine e_callV (st := []) (o := 86) (as := [.int (a1)]) f291_10 (by decide) rfl rfl (Nat.le_of_ble_eq_true rfl) (WF.t w 86 (by decide)) (Nat.le_of_ble_eq_true rfl) (p218_ok (d + 1) (h) w (a1) r4 hr5) ?_
    show ex _ 291 (13, [some (.ref (86)), some (.int (a0)), some (.int (a1)), some (.int (a2)), none, none, none, none, none], [.int (r4)], h) = _
    by_cases hc6 : (r4) = (0 : Int32)
    · rw [if_pos hc6] at hp
      refine e_if_eq_t f291_13 hc6 ?_
      refine e_iconst (v := -1) f291_30 (by decide) ?_
      have hp := Option.some.inj hp
      subst hp
      exact e_ireturn f291_31 (Or.inl rfl)
    · rw [if_neg hc6] at hp
      refine e_if_eq_f f291_13 hc6 ?_
      refine e_iload_n f291_16 rfl ?_
      refine e_iconst (v := -1) f291_17 (by decide) ?_
      refine e_aload_n f291_18 rfl ?_
      refine e_getI f291_19 (WF.t w 86 (by decide)) (by decide) ?_
      refine e_iconst (v := 1) f291_22 (by decide) ?_
      refine e_isub f291_23 ?_
      obtain ⟨r7, hr8, hp⟩ := bind_some hp
      try dsimp only at hp
      refine e_callS (st := []) (as := [.int (a2), .int ((-1)), .int ((hI (h) (86) 14) - (1))]) f291_24 (by decide) rfl rfl (Nat.le_of_ble_eq_true rfl) (Nat.le_of_ble_eq_true rfl) (p187_ok (d + 2) (h) w (a2) ((-1)) ((hI (h) (86) 14) - (1)) r7 hr8) ?_
      show ex _ 291 (27, [some (.ref (86)), some (.int (a0)), some (.int (a1)), some (.int (a2)), none, none, none, none, none], [.int (r7)], h) = _
      by_cases hc9 : (r7) = (0 : Int32)
      · rw [if_pos hc9] at hp
        refine e_if_ne_f f291_27 hc9 ?_
        refine e_iconst (v := -1) f291_30 (by decide) ?_
        have hp := Option.some.inj hp
        subst hp
        exact e_ireturn f291_31 (Or.inl rfl)
      · rw [if_neg hc9] at hp
        refine e_if_ne_t f291_27 hc9 ?_
        refine e_iconst (v := 0) f291_32 (by decide) ?_
        refine e_istore (ls2 := [some (.ref (86)), some (.int (a0)), some (.int (a1)), some (.int (a2)), some (.int (0)), none, none, none, none]) f291_33 (Nat.le_of_ble_eq_true rfl) rfl ?_
        refine ex_weak (ls := [some (.ref (86)), some (.int (a0)), some (.int (a1)), some (.int (a2)), some (.int (0)), none, none, none, none]) (le2_ok ⟨Or.inr rfl, Or.inr rfl, Or.inr rfl, Or.inr rfl, Or.inr rfl, Or.inl rfl, Or.inl rfl, Or.inl rfl, Or.inl rfl, trivial⟩) ?_
        exact p291_L35_ok d F a0 a1 a2 F (h) (w) (0) _ hp
set_option maxRecDepth 100000 in
set_option maxHeartbeats 4000000 in
theorem p291_w (F : Nat) (h : HS) (w : WF h) (a0 : Int32) (a1 : Int32) (a2 : Int32) (r : Int32 × HS) (hp : p291 F h a0 a1 a2 = some r) : WF r.2 := by
  unfold p291 at hp
  obtain ⟨r1, hr2, hp⟩ := bind_some hp
  try dsimp only at hp
  by_cases hc3 : (r1) = (0 : Int32)
  · rw [if_pos hc3] at hp
    have hp := Option.some.inj hp
    subst hp
    exact (w)
  · rw [if_neg hc3] at hp
    obtain ⟨r4, hr5, hp⟩ := bind_some hp
    try dsimp only at hp
    by_cases hc6 : (r4) = (0 : Int32)
    · rw [if_pos hc6] at hp
      have hp := Option.some.inj hp
      subst hp
      exact (w)
    · rw [if_neg hc6] at hp
      obtain ⟨r7, hr8, hp⟩ := bind_some hp
      try dsimp only at hp
      by_cases hc9 : (r7) = (0 : Int32)
      · rw [if_pos hc9] at hp
        have hp := Option.some.inj hp
        subst hp
        exact (w)
      · rw [if_neg hc9] at hp
        exact p291_L35_w F a0 a1 a2 F (h) (w) (0) _ hp
theorem f292_0 : fetch 292 0 = some (.aload_n 0, 0, 0, 0) := rfl
theorem f292_1 : fetch 292 1 = some (.getfield 580, 12, 85, 0) := rfl
theorem f292_4 : fetch 292 4 = some (.bipush 60, 0, 0, 0) := rfl
theorem f292_6 : fetch 292 6 = some (.if_icmp .eq 19, 25, 0, 0) := rfl
theorem f292_9 : fetch 292 9 = some (.aload_n 0, 0, 0, 0) := rfl
theorem f292_10 : fetch 292 10 = some (.iload_n 1, 0, 0, 0) := rfl
theorem f292_11 : fetch 292 11 = some (.invokevirtual 320, 213, 1, 0) := rfl
theorem f292_14 : fetch 292 14 = some (.ifCond .eq 11, 25, 0, 0) := rfl
theorem f292_17 : fetch 292 17 = some (.aload_n 0, 0, 0, 0) := rfl
theorem f292_18 : fetch 292 18 = some (.iload_n 2, 0, 0, 0) := rfl
theorem f292_19 : fetch 292 19 = some (.invokevirtual 329, 218, 1, 0) := rfl
theorem f292_22 : fetch 292 22 = some (.ifCond .ne 5, 27, 0, 0) := rfl
theorem f292_25 : fetch 292 25 = some (.iconst (-1), 0, 0, 0) := rfl
theorem f292_26 : fetch 292 26 = some (.ireturn, 0, 0, 0) := rfl
theorem f292_27 : fetch 292 27 = some (.aload_n 0, 0, 0, 0) := rfl
theorem f292_28 : fetch 292 28 = some (.getfield 204, 12, 86, 2) := rfl
theorem f292_31 : fetch 292 31 = some (.aload_n 0, 0, 0, 0) := rfl
theorem f292_32 : fetch 292 32 = some (.getfield 580, 12, 85, 0) := rfl
theorem f292_35 : fetch 292 35 = some (.iload_n 1, 0, 0, 0) := rfl
theorem f292_36 : fetch 292 36 = some (.iastore, 0, 0, 0) := rfl
theorem f292_37 : fetch 292 37 = some (.aload_n 0, 0, 0, 0) := rfl
theorem f292_38 : fetch 292 38 = some (.getfield 207, 12, 87, 2) := rfl
theorem f292_41 : fetch 292 41 = some (.aload_n 0, 0, 0, 0) := rfl
theorem f292_42 : fetch 292 42 = some (.getfield 580, 12, 85, 0) := rfl
theorem f292_45 : fetch 292 45 = some (.iload_n 2, 0, 0, 0) := rfl
theorem f292_46 : fetch 292 46 = some (.iastore, 0, 0, 0) := rfl
theorem f292_47 : fetch 292 47 = some (.aload_n 0, 0, 0, 0) := rfl
theorem f292_48 : fetch 292 48 = some (.getfield 210, 12, 88, 2) := rfl
theorem f292_51 : fetch 292 51 = some (.aload_n 0, 0, 0, 0) := rfl
theorem f292_52 : fetch 292 52 = some (.getfield 580, 12, 85, 0) := rfl
theorem f292_55 : fetch 292 55 = some (.aload_n 0, 0, 0, 0) := rfl
theorem f292_56 : fetch 292 56 = some (.getfield 244, 12, 1, 0) := rfl
theorem f292_59 : fetch 292 59 = some (.iastore, 0, 0, 0) := rfl
theorem f292_60 : fetch 292 60 = some (.aload_n 0, 0, 0, 0) := rfl
theorem f292_61 : fetch 292 61 = some (.getfield 213, 12, 89, 2) := rfl
theorem f292_64 : fetch 292 64 = some (.aload_n 0, 0, 0, 0) := rfl
theorem f292_65 : fetch 292 65 = some (.getfield 580, 12, 85, 0) := rfl
theorem f292_68 : fetch 292 68 = some (.ldc_w 290, 0, 0, 100000) := rfl
theorem f292_71 : fetch 292 71 = some (.iastore, 0, 0, 0) := rfl
theorem f292_72 : fetch 292 72 = some (.aload_n 0, 0, 0, 0) := rfl
theorem f292_73 : fetch 292 73 = some (.dup, 0, 0, 0) := rfl
theorem f292_74 : fetch 292 74 = some (.getfield 580, 12, 85, 0) := rfl
theorem f292_77 : fetch 292 77 = some (.iconst 1, 0, 0, 0) := rfl
theorem f292_78 : fetch 292 78 = some (.iadd, 0, 0, 0) := rfl
theorem f292_79 : fetch 292 79 = some (.putfield 580, 12, 85, 0) := rfl
theorem f292_82 : fetch 292 82 = some (.aload_n 0, 0, 0, 0) := rfl
theorem f292_83 : fetch 292 83 = some (.getfield 580, 12, 85, 0) := rfl
theorem f292_86 : fetch 292 86 = some (.iconst 1, 0, 0, 0) := rfl
theorem f292_87 : fetch 292 87 = some (.isub, 0, 0, 0) := rfl
theorem f292_88 : fetch 292 88 = some (.ireturn, 0, 0, 0) := rfl
set_option maxRecDepth 100000 in
set_option maxHeartbeats 4000000 in
theorem p292_ok (d : Nat) (h : HS) (w : WF h) (a0 : Int32) (a1 : Int32) (r : Int32 × HS) (hp : p292 h a0 a1 = some r) : ex (d + 2) 292 (ent 292 [.ref (86), .int (a0), .int (a1)] h) = some (some (.int (r.1)), r.2) := by
  rw [show ent 292 [.ref (86), .int (a0), .int (a1)] h = (0, [some (.ref (86)), some (.int (a0)), some (.int (a1))], [], h) from by  rfl]
  refine ex_weak (ls := [some (.ref (86)), some (.int (a0)), some (.int (a1))]) (le2_ok ⟨Or.inr rfl, Or.inr rfl, Or.inr rfl, trivial⟩) ?_
  unfold p292 at hp
  refine e_aload_n f292_0 rfl ?_
  refine e_getI f292_1 (WF.t w 86 (by decide)) (by decide) ?_
  refine e_bipush (v := 60) f292_4 (by decide) ?_
  by_cases hc1 : (hI (h) (86) 85) = ((60) : Int32)
  · rw [if_pos hc1] at hp
    refine e_icmp_eq_t f292_6 hc1 ?_
    refine e_iconst (v := -1) f292_25 (by decide) ?_
    have hp := Option.some.inj hp
    subst hp
    exact e_ireturn f292_26 (Or.inl rfl)
  · rw [if_neg hc1] at hp
    refine e_icmp_eq_f f292_6 hc1 ?_
    refine e_aload_n f292_9 rfl ?_
    refine e_iload_n f292_10 rfl ?_
    obtain ⟨r2, hr3, hp⟩ := bind_some hp
    try dsimp only at hp
    refine e_callV (st := []) (o := 86) (as := [.int (a0)]) f292_11 (by decide) rfl rfl (Nat.le_of_ble_eq_true rfl) (WF.t w 86 (by decide)) (Nat.le_of_ble_eq_true rfl) (p213_ok d (h) w (a0) r2 hr3) ?_
    show ex _ 292 (14, [some (.ref (86)), some (.int (a0)), some (.int (a1))], [.int (r2)], h) = _
    by_cases hc4 : (r2) = (0 : Int32)
    · rw [if_pos hc4] at hp
      refine e_if_eq_t f292_14 hc4 ?_
      refine e_iconst (v := -1) f292_25 (by decide) ?_
      have hp := Option.some.inj hp
      subst hp
      exact e_ireturn f292_26 (Or.inl rfl)
    · rw [if_neg hc4] at hp
      refine e_if_eq_f f292_14 hc4 ?_
      refine e_aload_n f292_17 rfl ?_
      refine e_iload_n f292_18 rfl ?_
      obtain ⟨r5, hr6, hp⟩ := bind_some hp
      try dsimp only at hp
      refine e_callV (st := []) (o := 86) (as := [.int (a1)]) f292_19 (by decide) rfl rfl (Nat.le_of_ble_eq_true rfl) (WF.t w 86 (by decide)) (Nat.le_of_ble_eq_true rfl) (p218_ok d (h) w (a1) r5 hr6) ?_
      show ex _ 292 (22, [some (.ref (86)), some (.int (a0)), some (.int (a1))], [.int (r5)], h) = _
      by_cases hc7 : (r5) = (0 : Int32)
      · rw [if_pos hc7] at hp
        refine e_if_ne_f f292_22 hc7 ?_
        refine e_iconst (v := -1) f292_25 (by decide) ?_
        have hp := Option.some.inj hp
        subst hp
        exact e_ireturn f292_26 (Or.inl rfl)
      · rw [if_neg hc7] at hp
        refine e_if_ne_t f292_22 hc7 ?_
        refine e_aload_n f292_27 rfl ?_
        refine e_getR f292_28 (WF.t w 86 (by decide)) rfl (WF.r (q := 149) w 86 86 (by decide)) ?_
        refine e_aload_n f292_31 rfl ?_
        refine e_getI f292_32 (WF.t w 86 (by decide)) (by decide) ?_
        refine e_iload_n f292_35 rfl ?_
        by_cases hg8 : (hI (h) (86) 85) < (0 : Int32) ∨ 60 ≤ (hI (h) (86) 85).toNatClampNeg
        · rw [if_pos hg8] at hp; cases hp
        rw [if_neg hg8] at hp
        refine e_iastore f292_36 (WF.t w 149 (by decide)) (WF.n w 149 (by decide)) hg8 ?_
        refine e_aload_n f292_37 rfl ?_
        refine e_getR f292_38 (WF.t w 86 (by decide)) rfl (WF.r (q := 150) w 86 87 (by decide)) ?_
        refine e_aload_n f292_41 rfl ?_
        refine e_getI f292_42 (WF.t w 86 (by decide)) (by decide) ?_
        refine e_iload_n f292_45 rfl ?_
        by_cases hg9 : (hI (hsI (h) (149) (hI (h) (86) 85).toNatClampNeg (a0)) (86) 85) < (0 : Int32) ∨ 60 ≤ (hI (hsI (h) (149) (hI (h) (86) 85).toNatClampNeg (a0)) (86) 85).toNatClampNeg
        · rw [if_pos hg9] at hp; cases hp
        rw [if_neg hg9] at hp
        refine e_iastore f292_46 (WF.t w 150 (by decide)) (WF.n w 150 (by decide)) hg9 ?_
        obtain ⟨h10, e11, hp⟩ := bind_some hp
        try dsimp only at hp
        have e11 := Option.some.inj e11
        have w12 : WF h10 := e11 ▸ w
        rw [e11]
        refine e_aload_n f292_47 rfl ?_
        refine e_getR f292_48 (WF.t w12 86 (by decide)) rfl (WF.r (q := 151) w12 86 88 (by decide)) ?_
        refine e_aload_n f292_51 rfl ?_
        refine e_getI f292_52 (WF.t w12 86 (by decide)) (by decide) ?_
        refine e_aload_n f292_55 rfl ?_
        refine e_getI f292_56 (WF.t w12 86 (by decide)) (by decide) ?_
        by_cases hg13 : (hI (h10) (86) 85) < (0 : Int32) ∨ 60 ≤ (hI (h10) (86) 85).toNatClampNeg
        · rw [if_pos hg13] at hp; cases hp
        rw [if_neg hg13] at hp
        refine e_iastore f292_59 (WF.t w12 151 (by decide)) (WF.n w12 151 (by decide)) hg13 ?_
        refine e_aload_n f292_60 rfl ?_
        refine e_getR f292_61 (WF.t w12 86 (by decide)) rfl (WF.r (q := 152) w12 86 89 (by decide)) ?_
        refine e_aload_n f292_64 rfl ?_
        refine e_getI f292_65 (WF.t w12 86 (by decide)) (by decide) ?_
        refine e_ldcw (v := 100000) f292_68 (by decide) (by decide) ?_
        by_cases hg14 : (hI (hsI (h10) (151) (hI (h10) (86) 85).toNatClampNeg (hI (h10) (86) 1)) (86) 85) < (0 : Int32) ∨ 60 ≤ (hI (hsI (h10) (151) (hI (h10) (86) 85).toNatClampNeg (hI (h10) (86) 1)) (86) 85).toNatClampNeg
        · rw [if_pos hg14] at hp; cases hp
        rw [if_neg hg14] at hp
        refine e_iastore f292_71 (WF.t w12 152 (by decide)) (WF.n w12 152 (by decide)) hg14 ?_
        obtain ⟨h15, e16, hp⟩ := bind_some hp
        try dsimp only at hp
        have e16 := Option.some.inj e16
        have w17 : WF h15 := e16 ▸ w12
        rw [e16]
        refine e_aload_n f292_72 rfl ?_
        refine e_dup f292_73 rfl ?_
        refine e_getI f292_74 (WF.t w17 86 (by decide)) (by decide) ?_
        refine e_iconst (v := 1) f292_77 (by decide) ?_
        refine e_iadd f292_78 ?_
        refine e_putI f292_79 (WF.t w17 86 (by decide)) rfl ?_
        refine e_aload_n f292_82 rfl ?_
        refine e_getI f292_83 (WF.t w17 86 (by decide)) (by decide) ?_
        refine e_iconst (v := 1) f292_86 (by decide) ?_
        refine e_isub f292_87 ?_
        have hp := Option.some.inj hp
        subst hp
        exact e_ireturn f292_88 (Or.inl rfl)
set_option maxRecDepth 100000 in
set_option maxHeartbeats 4000000 in
theorem p292_w (h : HS) (w : WF h) (a0 : Int32) (a1 : Int32) (r : Int32 × HS) (hp : p292 h a0 a1 = some r) : WF r.2 := by
  unfold p292 at hp
  by_cases hc1 : (hI (h) (86) 85) = ((60) : Int32)
  · rw [if_pos hc1] at hp
    have hp := Option.some.inj hp
    subst hp
    exact (w)
  · rw [if_neg hc1] at hp
    obtain ⟨r2, hr3, hp⟩ := bind_some hp
    try dsimp only at hp
    by_cases hc4 : (r2) = (0 : Int32)
    · rw [if_pos hc4] at hp
      have hp := Option.some.inj hp
      subst hp
      exact (w)
    · rw [if_neg hc4] at hp
      obtain ⟨r5, hr6, hp⟩ := bind_some hp
      try dsimp only at hp
      by_cases hc7 : (r5) = (0 : Int32)
      · rw [if_pos hc7] at hp
        have hp := Option.some.inj hp
        subst hp
        exact (w)
      · rw [if_neg hc7] at hp
        by_cases hg8 : (hI (h) (86) 85) < (0 : Int32) ∨ 60 ≤ (hI (h) (86) 85).toNatClampNeg
        · rw [if_pos hg8] at hp; cases hp
        rw [if_neg hg8] at hp
        by_cases hg9 : (hI (hsI (h) (149) (hI (h) (86) 85).toNatClampNeg (a0)) (86) 85) < (0 : Int32) ∨ 60 ≤ (hI (hsI (h) (149) (hI (h) (86) 85).toNatClampNeg (a0)) (86) 85).toNatClampNeg
        · rw [if_pos hg9] at hp; cases hp
        rw [if_neg hg9] at hp
        obtain ⟨h10, e11, hp⟩ := bind_some hp
        try dsimp only at hp
        have e11 := Option.some.inj e11
        have w12 : WF h10 := e11 ▸ w
        by_cases hg13 : (hI (h10) (86) 85) < (0 : Int32) ∨ 60 ≤ (hI (h10) (86) 85).toNatClampNeg
        · rw [if_pos hg13] at hp; cases hp
        rw [if_neg hg13] at hp
        by_cases hg14 : (hI (hsI (h10) (151) (hI (h10) (86) 85).toNatClampNeg (hI (h10) (86) 1)) (86) 85) < (0 : Int32) ∨ 60 ≤ (hI (hsI (h10) (151) (hI (h10) (86) 85).toNatClampNeg (hI (h10) (86) 1)) (86) 85).toNatClampNeg
        · rw [if_pos hg14] at hp; cases hp
        rw [if_neg hg14] at hp
        obtain ⟨h15, e16, hp⟩ := bind_some hp
        try dsimp only at hp
        have e16 := Option.some.inj e16
        have w17 : WF h15 := e16 ▸ w12
        have hp := Option.some.inj hp
        subst hp
        exact (w17)
theorem f293_0 : fetch 293 0 = some (.aload_n 0, 0, 0, 0) := rfl
theorem f293_1 : fetch 293 1 = some (.iload_n 2, 0, 0, 0) := rfl
theorem f293_2 : fetch 293 2 = some (.invokevirtual 548, 270, 1, 0) := rfl
theorem f293_5 : fetch 293 5 = some (.aload_n 0, 0, 0, 0) := rfl
theorem f293_6 : fetch 293 6 = some (.getfield 163, 12, 71, 2) := rfl
theorem f293_9 : fetch 293 9 = some (.bipush 8, 0, 0, 0) := rfl
theorem f293_11 : fetch 293 11 = some (.aload_n 0, 0, 0, 0) := rfl
theorem f293_12 : fetch 293 12 = some (.iload_n 1, 0, 0, 0) := rfl
theorem f293_13 : fetch 293 13 = some (.iload_n 2, 0, 0, 0) := rfl
theorem f293_14 : fetch 293 14 = some (.invokevirtual 358, 230, 2, 0) := rfl
theorem f293_17 : fetch 293 17 = some (.i2l, 0, 0, 0) := rfl
theorem f293_18 : fetch 293 18 = some (.lastore, 0, 0, 0) := rfl
theorem f293_19 : fetch 293 19 = some (.aload_n 0, 0, 0, 0) := rfl
theorem f293_20 : fetch 293 20 = some (.getfield 163, 12, 71, 2) := rfl
theorem f293_23 : fetch 293 23 = some (.bipush 9, 0, 0, 0) := rfl
theorem f293_25 : fetch 293 25 = some (.aload_n 0, 0, 0, 0) := rfl
theorem f293_26 : fetch 293 26 = some (.iload_n 1, 0, 0, 0) := rfl
theorem f293_27 : fetch 293 27 = some (.iload_n 2, 0, 0, 0) := rfl
theorem f293_28 : fetch 293 28 = some (.invokevirtual 583, 231, 2, 0) := rfl
theorem f293_31 : fetch 293 31 = some (.i2l, 0, 0, 0) := rfl
theorem f293_32 : fetch 293 32 = some (.lastore, 0, 0, 0) := rfl
theorem f293_33 : fetch 293 33 = some (.aload_n 0, 0, 0, 0) := rfl
theorem f293_34 : fetch 293 34 = some (.aload_n 0, 0, 0, 0) := rfl
theorem f293_35 : fetch 293 35 = some (.iload_n 2, 0, 0, 0) := rfl
theorem f293_36 : fetch 293 36 = some (.invokevirtual 526, 268, 1, 0) := rfl
theorem f293_39 : fetch 293 39 = some (.iconst 1, 0, 0, 0) := rfl
theorem f293_40 : fetch 293 40 = some (.invokevirtual 557, 274, 2, 0) := rfl
theorem f293_43 : fetch 293 43 = some (.istore_n 3, 0, 0, 0) := rfl
theorem f293_44 : fetch 293 44 = some (.iload_n 3, 0, 0, 0) := rfl
theorem f293_45 : fetch 293 45 = some (.iconst (-1), 0, 0, 0) := rfl
theorem f293_46 : fetch 293 46 = some (.if_icmp .ne 8, 54, 0, 0) := rfl
theorem f293_49 : fetch 293 49 = some (.bipush 99, 0, 0, 0) := rfl
theorem f293_51 : fetch 293 51 = some (.goto 9, 60, 0, 0) := rfl
theorem f293_54 : fetch 293 54 = some (.aload_n 0, 0, 0, 0) := rfl
theorem f293_55 : fetch 293 55 = some (.getfield 141, 12, 62, 2) := rfl
theorem f293_58 : fetch 293 58 = some (.iload_n 3, 0, 0, 0) := rfl
theorem f293_59 : fetch 293 59 = some (.iaload, 0, 0, 0) := rfl
theorem f293_60 : fetch 293 60 = some (.ireturn, 0, 0, 0) := rfl
set_option maxRecDepth 100000 in
set_option maxHeartbeats 4000000 in
theorem p293_ok (d : Nat) (F : Nat) (h : HS) (w : WF h) (a0 : Int32) (a1 : Int32) (r : Int32 × HS) (hp : p293 F h a0 a1 = some r) : ex (d + 4) 293 (ent 293 [.ref (86), .int (a0), .int (a1)] h) = some (some (.int (r.1)), r.2) := by
  rw [show ent 293 [.ref (86), .int (a0), .int (a1)] h = (0, [some (.ref (86)), some (.int (a0)), some (.int (a1)), none], [], h) from by  rfl]
  refine ex_weak (ls := [some (.ref (86)), some (.int (a0)), some (.int (a1)), none]) (le2_ok ⟨Or.inr rfl, Or.inr rfl, Or.inr rfl, Or.inr rfl, trivial⟩) ?_
  unfold p293 at hp
  refine e_aload_n f293_0 rfl ?_
  refine e_iload_n f293_1 rfl ?_
  obtain ⟨r1, hr2, hp⟩ := bind_some hp
  try dsimp only at hp
  refine e_callV (st := []) (o := 86) (as := [.int (a1)]) f293_2 (by decide) rfl rfl (Nat.le_of_ble_eq_true rfl) (WF.t w 86 (by decide)) (Nat.le_of_ble_eq_true rfl) (p270_ok (d + 3) F (h) w (a1) r1 hr2) ?_
  show ex _ 293 (5, [some (.ref (86)), some (.int (a0)), some (.int (a1)), none], [], r1) = _
  refine e_aload_n f293_5 rfl ?_
  refine e_getR f293_6 (WF.t (p270_w F (h) w (a1)  r1 hr2) 86 (by decide)) rfl (WF.r (q := 137) (p270_w F (h) w (a1)  r1 hr2) 86 71 (by decide)) ?_
  refine e_bipush (v := 8) f293_9 (by decide) ?_
  refine e_aload_n f293_11 rfl ?_
  refine e_iload_n f293_12 rfl ?_
  refine e_iload_n f293_13 rfl ?_
  obtain ⟨r3, hr4, hp⟩ := bind_some hp
  try dsimp only at hp
  refine e_callV (st := [.int (8), .ref (137)]) (o := 86) (as := [.int (a0), .int (a1)]) f293_14 (by decide) rfl rfl (Nat.le_of_ble_eq_true rfl) (WF.t (p270_w F (h) w (a1)  r1 hr2) 86 (by decide)) (Nat.le_of_ble_eq_true rfl) (p230_ok (d + 2) F (r1) (p270_w F (h) w (a1)  r1 hr2) (a0) (a1) r3 hr4) ?_
  show ex _ 293 (17, [some (.ref (86)), some (.int (a0)), some (.int (a1)), none], [.int (r3), .int (8), .ref (137)], r1) = _
  refine e_i2l f293_17 ?_
  by_cases hg5 : (8) < (0 : Int32) ∨ 11 ≤ (8 : Int32).toNatClampNeg
  · rw [if_pos hg5] at hp; cases hp
  rw [if_neg hg5] at hp
  refine e_lastore f293_18 (WF.t (p270_w F (h) w (a1)  r1 hr2) 137 (by decide)) (WF.n (p270_w F (h) w (a1)  r1 hr2) 137 (by decide)) hg5 ?_
  refine e_aload_n f293_19 rfl ?_
  refine e_getR f293_20 (WF.t (p270_w F (h) w (a1)  r1 hr2) 86 (by decide)) rfl (WF.r (q := 137) (p270_w F (h) w (a1)  r1 hr2) 86 71 (by decide)) ?_
  refine e_bipush (v := 9) f293_23 (by decide) ?_
  refine e_aload_n f293_25 rfl ?_
  refine e_iload_n f293_26 rfl ?_
  refine e_iload_n f293_27 rfl ?_
  obtain ⟨r6, hr7, hp⟩ := bind_some hp
  try dsimp only at hp
  refine e_callV (st := [.int (9), .ref (137)]) (o := 86) (as := [.int (a0), .int (a1)]) f293_28 (by decide) rfl rfl (Nat.le_of_ble_eq_true rfl) (WF.t (p270_w F (h) w (a1)  r1 hr2) 86 (by decide)) (Nat.le_of_ble_eq_true rfl) (p231_ok (d + 2) F (hsL (r1) (137) (8 : Int32).toNatClampNeg ((r3).toInt64)) (p270_w F (h) w (a1)  r1 hr2) (a0) (a1) r6 hr7) ?_
  show ex _ 293 (31, [some (.ref (86)), some (.int (a0)), some (.int (a1)), none], [.int (r6), .int (9), .ref (137)], hsL (r1) (137) (8 : Int32).toNatClampNeg ((r3).toInt64)) = _
  refine e_i2l f293_31 ?_
  by_cases hg8 : (9) < (0 : Int32) ∨ 11 ≤ (9 : Int32).toNatClampNeg
  · rw [if_pos hg8] at hp; cases hp
  rw [if_neg hg8] at hp
  refine e_lastore f293_32 (WF.t (p270_w F (h) w (a1)  r1 hr2) 137 (by decide)) (WF.n (p270_w F (h) w (a1)  r1 hr2) 137 (by decide)) hg8 ?_
  obtain ⟨h9, e10, hp⟩ := bind_some hp
  try dsimp only at hp
  have e10 := Option.some.inj e10
  have w11 : WF h9 := e10 ▸ (p270_w F (h) w (a1)  r1 hr2)
  rw [e10]
  refine e_aload_n f293_33 rfl ?_
  refine e_aload_n f293_34 rfl ?_
  refine e_iload_n f293_35 rfl ?_
  obtain ⟨r12, hr13, hp⟩ := bind_some hp
  try dsimp only at hp
  refine e_callV (st := [.ref (86)]) (o := 86) (as := [.int (a1)]) f293_36 (by decide) rfl rfl (Nat.le_of_ble_eq_true rfl) (WF.t w11 86 (by decide)) (Nat.le_of_ble_eq_true rfl) (p268_ok (d + 3) F (h9) w11 (a1) r12 hr13) ?_
  show ex _ 293 (39, [some (.ref (86)), some (.int (a0)), some (.int (a1)), none], [.int (r12), .ref (86)], h9) = _
  refine e_iconst (v := 1) f293_39 (by decide) ?_
  obtain ⟨r14, hr15, hp⟩ := bind_some hp
  try dsimp only at hp
  refine e_callV (st := []) (o := 86) (as := [.int (r12), .int (1)]) f293_40 (by decide) rfl rfl (Nat.le_of_ble_eq_true rfl) (WF.t w11 86 (by decide)) (Nat.le_of_ble_eq_true rfl) (p274_ok d F (h9) w11 (r12) (1) r14 hr15) ?_
  show ex _ 293 (43, [some (.ref (86)), some (.int (a0)), some (.int (a1)), none], [.int (r14.1)], r14.2) = _
  refine e_istore_n (ls2 := [some (.ref (86)), some (.int (a0)), some (.int (a1)), some (.int (r14.1))]) f293_43 (Nat.le_of_ble_eq_true rfl) rfl ?_
  refine e_iload_n f293_44 rfl ?_
  refine e_iconst (v := -1) f293_45 (by decide) ?_
  by_cases hc16 : (r14.1) = (((-1)) : Int32)
  · rw [if_pos hc16] at hp
    refine e_icmp_ne_f f293_46 hc16 ?_
    refine e_bipush (v := 99) f293_49 (by decide) ?_
    refine e_goto f293_51 ?_
    have hp := Option.some.inj hp
    subst hp
    exact e_ireturn f293_60 (Or.inl rfl)
  · rw [if_neg hc16] at hp
    refine e_icmp_ne_t f293_46 hc16 ?_
    refine e_aload_n f293_54 rfl ?_
    refine e_getR f293_55 (WF.t (p274_w F (h9) w11 (r12) (1)  r14 hr15) 86 (by decide)) rfl (WF.r (q := 130) (p274_w F (h9) w11 (r12) (1)  r14 hr15) 86 62 (by decide)) ?_
    refine e_iload_n f293_58 rfl ?_
    by_cases hg17 : (r14.1) < (0 : Int32) ∨ 240 ≤ (r14.1).toNatClampNeg
    · rw [if_pos hg17] at hp; cases hp
    rw [if_neg hg17] at hp
    refine e_iaload f293_59 (Or.inl (WF.t (p274_w F (h9) w11 (r12) (1)  r14 hr15) 130 (by decide))) (WF.n (p274_w F (h9) w11 (r12) (1)  r14 hr15) 130 (by decide)) hg17 ?_
    have hp := Option.some.inj hp
    subst hp
    exact e_ireturn f293_60 (Or.inl rfl)
set_option maxRecDepth 100000 in
set_option maxHeartbeats 4000000 in
theorem p293_w (F : Nat) (h : HS) (w : WF h) (a0 : Int32) (a1 : Int32) (r : Int32 × HS) (hp : p293 F h a0 a1 = some r) : WF r.2 := by
  unfold p293 at hp
  obtain ⟨r1, hr2, hp⟩ := bind_some hp
  try dsimp only at hp
  obtain ⟨r3, hr4, hp⟩ := bind_some hp
  try dsimp only at hp
  by_cases hg5 : (8) < (0 : Int32) ∨ 11 ≤ (8 : Int32).toNatClampNeg
  · rw [if_pos hg5] at hp; cases hp
  rw [if_neg hg5] at hp
  obtain ⟨r6, hr7, hp⟩ := bind_some hp
  try dsimp only at hp
  by_cases hg8 : (9) < (0 : Int32) ∨ 11 ≤ (9 : Int32).toNatClampNeg
  · rw [if_pos hg8] at hp; cases hp
  rw [if_neg hg8] at hp
  obtain ⟨h9, e10, hp⟩ := bind_some hp
  try dsimp only at hp
  have e10 := Option.some.inj e10
  have w11 : WF h9 := e10 ▸ (p270_w F (h) w (a1)  r1 hr2)
  obtain ⟨r12, hr13, hp⟩ := bind_some hp
  try dsimp only at hp
  obtain ⟨r14, hr15, hp⟩ := bind_some hp
  try dsimp only at hp
  by_cases hc16 : (r14.1) = (((-1)) : Int32)
  · rw [if_pos hc16] at hp
    have hp := Option.some.inj hp
    subst hp
    exact ((p274_w F (h9) w11 (r12) (1)  r14 hr15))
  · rw [if_neg hc16] at hp
    by_cases hg17 : (r14.1) < (0 : Int32) ∨ 240 ≤ (r14.1).toNatClampNeg
    · rw [if_pos hg17] at hp; cases hp
    rw [if_neg hg17] at hp
    have hp := Option.some.inj hp
    subst hp
    exact ((p274_w F (h9) w11 (r12) (1)  r14 hr15))
theorem f294_0 : fetch 294 0 = some (.aload_n 0, 0, 0, 0) := rfl
theorem f294_1 : fetch 294 1 = some (.iload_n 1, 0, 0, 0) := rfl
theorem f294_2 : fetch 294 2 = some (.invokevirtual 329, 218, 1, 0) := rfl
theorem f294_5 : fetch 294 5 = some (.ifCond .eq 19, 24, 0, 0) := rfl
theorem f294_8 : fetch 294 8 = some (.iload_n 2, 0, 0, 0) := rfl
theorem f294_9 : fetch 294 9 = some (.invokestatic 335, 188, 1, 1) := rfl
theorem f294_12 : fetch 294 12 = some (.ifCond .eq 12, 24, 0, 0) := rfl
theorem f294_15 : fetch 294 15 = some (.aload_n 0, 0, 0, 0) := rfl
theorem f294_16 : fetch 294 16 = some (.iload_n 1, 0, 0, 0) := rfl
theorem f294_17 : fetch 294 17 = some (.iload_n 2, 0, 0, 0) := rfl
theorem f294_18 : fetch 294 18 = some (.invokevirtual 586, 293, 2, 0) := rfl
theorem f294_21 : fetch 294 21 = some (.goto 4, 25, 0, 0) := rfl
theorem f294_24 : fetch 294 24 = some (.iconst (-1), 0, 0, 0) := rfl
theorem f294_25 : fetch 294 25 = some (.ireturn, 0, 0, 0) := rfl
set_option maxRecDepth 100000 in
set_option maxHeartbeats 4000000 in
theorem p294_ok (d : Nat) (F : Nat) (h : HS) (w : WF h) (a0 : Int32) (a1 : Int32) (r : Int32 × HS) (hp : p294 F h a0 a1 = some r) : ex (d + 5) 294 (ent 294 [.ref (86), .int (a0), .int (a1)] h) = some (some (.int (r.1)), r.2) := by
  rw [show ent 294 [.ref (86), .int (a0), .int (a1)] h = (0, [some (.ref (86)), some (.int (a0)), some (.int (a1))], [], h) from by  rfl]
  refine ex_weak (ls := [some (.ref (86)), some (.int (a0)), some (.int (a1))]) (le2_ok ⟨Or.inr rfl, Or.inr rfl, Or.inr rfl, trivial⟩) ?_
  unfold p294 at hp
  refine e_aload_n f294_0 rfl ?_
  refine e_iload_n f294_1 rfl ?_
  obtain ⟨r1, hr2, hp⟩ := bind_some hp
  try dsimp only at hp
  refine e_callV (st := []) (o := 86) (as := [.int (a0)]) f294_2 (by decide) rfl rfl (Nat.le_of_ble_eq_true rfl) (WF.t w 86 (by decide)) (Nat.le_of_ble_eq_true rfl) (p218_ok (d + 3) (h) w (a0) r1 hr2) ?_
  show ex _ 294 (5, [some (.ref (86)), some (.int (a0)), some (.int (a1))], [.int (r1)], h) = _
  by_cases hc3 : (r1) = (0 : Int32)
  · rw [if_pos hc3] at hp
    refine e_if_eq_t f294_5 hc3 ?_
    refine e_iconst (v := -1) f294_24 (by decide) ?_
    have hp := Option.some.inj hp
    subst hp
    exact e_ireturn f294_25 (Or.inl rfl)
  · rw [if_neg hc3] at hp
    refine e_if_eq_f f294_5 hc3 ?_
    refine e_iload_n f294_8 rfl ?_
    obtain ⟨r4, hr5, hp⟩ := bind_some hp
    try dsimp only at hp
    refine e_callS (st := []) (as := [.int (a1)]) f294_9 (by decide) rfl rfl (Nat.le_of_ble_eq_true rfl) (Nat.le_of_ble_eq_true rfl) (p188_ok (d + 3) (h) w (a1) r4 hr5) ?_
    show ex _ 294 (12, [some (.ref (86)), some (.int (a0)), some (.int (a1))], [.int (r4)], h) = _
    by_cases hc6 : (r4) = (0 : Int32)
    · rw [if_pos hc6] at hp
      refine e_if_eq_t f294_12 hc6 ?_
      refine e_iconst (v := -1) f294_24 (by decide) ?_
      have hp := Option.some.inj hp
      subst hp
      exact e_ireturn f294_25 (Or.inl rfl)
    · rw [if_neg hc6] at hp
      refine e_if_eq_f f294_12 hc6 ?_
      refine e_aload_n f294_15 rfl ?_
      refine e_iload_n f294_16 rfl ?_
      refine e_iload_n f294_17 rfl ?_
      obtain ⟨r7, hr8, hp⟩ := bind_some hp
      try dsimp only at hp
      refine e_callV (st := []) (o := 86) (as := [.int (a0), .int (a1)]) f294_18 (by decide) rfl rfl (Nat.le_of_ble_eq_true rfl) (WF.t w 86 (by decide)) (Nat.le_of_ble_eq_true rfl) (p293_ok d F (h) w (a0) (a1) r7 hr8) ?_
      show ex _ 294 (21, [some (.ref (86)), some (.int (a0)), some (.int (a1))], [.int (r7.1)], r7.2) = _
      refine e_goto f294_21 ?_
      have hp := Option.some.inj hp
      subst hp
      exact e_ireturn f294_25 (Or.inl rfl)
set_option maxRecDepth 100000 in
set_option maxHeartbeats 4000000 in
theorem p294_w (F : Nat) (h : HS) (w : WF h) (a0 : Int32) (a1 : Int32) (r : Int32 × HS) (hp : p294 F h a0 a1 = some r) : WF r.2 := by
  unfold p294 at hp
  obtain ⟨r1, hr2, hp⟩ := bind_some hp
  try dsimp only at hp
  by_cases hc3 : (r1) = (0 : Int32)
  · rw [if_pos hc3] at hp
    have hp := Option.some.inj hp
    subst hp
    exact (w)
  · rw [if_neg hc3] at hp
    obtain ⟨r4, hr5, hp⟩ := bind_some hp
    try dsimp only at hp
    by_cases hc6 : (r4) = (0 : Int32)
    · rw [if_pos hc6] at hp
      have hp := Option.some.inj hp
      subst hp
      exact (w)
    · rw [if_neg hc6] at hp
      obtain ⟨r7, hr8, hp⟩ := bind_some hp
      try dsimp only at hp
      have hp := Option.some.inj hp
      subst hp
      exact ((p293_w F (h) w (a0) (a1)  r7 hr8))
