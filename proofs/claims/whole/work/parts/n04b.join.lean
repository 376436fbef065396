set_option maxRecDepth 100000 in
set_option maxHeartbeats 4000000 in
theorem p306_j2120_ok (d : Nat) (F : Nat) (K18 : HS → Int32 → Option (Int32 × HS)) (hK18 : ∀ (h : HS) (w : WF h) (u3 : Int32) (r : Int32 × HS), K18 h u3 = some r → ex (d + 66) 306 (18, [some (.ref (1)), some (.ref (32)), some (.ref (86)), some (.int (u3))], [], h) = some (some (.int (r.1)), r.2)) (h : HS) (w : WF h) (v3 : Int32) (r : Int32 × HS) (hp : p306_j2120 F K18 h v3 = some r) : ex (d + 66) 306 (2120, [some (.ref (1)), some (.ref (32)), some (.ref (86)), some (.int (v3))], [], h) = some (some (.int (r.1)), r.2) := by
  unfold p306_j2120 at hp
  refine e_iinc (ls2 := [some (.ref (1)), some (.ref (32)), some (.ref (86)), some (.int ((v3) + 8))]) f306_2120 (by decide) rfl rfl ?_
  refine e_goto f306_2123 ?_
  refine ex_weak (ls := [some (.ref (1)), some (.ref (32)), some (.ref (86)), some (.int ((v3) + 8))]) (le2_ok ⟨Or.inr rfl, Or.inr rfl, Or.inr rfl, Or.inr rfl, trivial⟩) ?_
  exact hK18 (h) (w) ((v3) + 8) _ hp
set_option maxRecDepth 100000 in
set_option maxHeartbeats 4000000 in
theorem p306_j1540_ok (d : Nat) (F : Nat) (K18 : HS → Int32 → Option (Int32 × HS)) (hK18 : ∀ (h : HS) (w : WF h) (u3 : Int32) (r : Int32 × HS), K18 h u3 = some r → ex (d + 66) 306 (18, [some (.ref (1)), some (.ref (32)), some (.ref (86)), some (.int (u3))], [], h) = some (some (.int (r.1)), r.2)) (h : HS) (w : WF h) (v3 : Int32) (s0 : Int32) (s1 : Int32) (s3 : Int32) (r : Int32 × HS) (hp : p306_j1540 F K18 h v3 s0 s1 s3 = some r) : ex (d + 66) 306 (1540, [some (.ref (1)), some (.ref (32)), some (.ref (86)), some (.int (v3))], [.int (s0), .int (s1), .ref (86), .int (s3)], h) = some (some (.int (r.1)), r.2) := by
  unfold p306_j1540 at hp
  obtain ⟨r528, hr529, hp⟩ := bind_some hp
  try dsimp only at hp
  refine e_callV (st := [.int (s3)]) (o := 86) (as := [.int (s1), .int (s0)]) f306_1540 (by decide) rfl rfl (Nat.le_of_ble_eq_true rfl) (WF.t w 86 (by decide)) (Nat.le_of_ble_eq_true rfl) (p276_ok (d + 64) (h) w (s1) (s0) r528 hr529) ?_
  show ex _ 306 (1543, [some (.ref (1)), some (.ref (32)), some (.ref (86)), some (.int (v3))], [.int (r528.1), .int (s3)], r528.2) = _
  by_cases hc530 : (s3) = ((r528.1) : Int32)
  · rw [if_pos hc530] at hp
    refine e_icmp_eq_t f306_1543 hc530 ?_
    refine ex_weak (ls := [some (.ref (1)), some (.ref (32)), some (.ref (86)), some (.int (v3))]) (le2_ok ⟨Or.inr rfl, Or.inr rfl, Or.inr rfl, Or.inr rfl, trivial⟩) ?_
    exact p306_j2120_ok d F (K18) (hK18) (r528.2) ((p276_w (h) w (s1) (s0)  r528 hr529)) (v3) _ hp
  · rw [if_neg hc530] at hp
    refine e_icmp_eq_f f306_1543 hc530 ?_
    refine e_iconst (v := 0) f306_1546 (by decide) ?_
    have hp := Option.some.inj hp
    subst hp
    exact e_ireturn f306_1547 (by decide)
set_option maxRecDepth 100000 in
set_option maxHeartbeats 4000000 in
theorem p306_j1900_ok (d : Nat) (F : Nat) (K18 : HS → Int32 → Option (Int32 × HS)) (hK18 : ∀ (h : HS) (w : WF h) (u3 : Int32) (r : Int32 × HS), K18 h u3 = some r → ex (d + 66) 306 (18, [some (.ref (1)), some (.ref (32)), some (.ref (86)), some (.int (u3))], [], h) = some (some (.int (r.1)), r.2)) (h : HS) (w : WF h) (v3 : Int32) (s0 : Int32) (s1 : Int32) (s3 : Int32) (r : Int32 × HS) (hp : p306_j1900 F K18 h v3 s0 s1 s3 = some r) : ex (d + 66) 306 (1900, [some (.ref (1)), some (.ref (32)), some (.ref (86)), some (.int (v3))], [.int (s0), .int (s1), .ref (86), .int (s3)], h) = some (some (.int (r.1)), r.2) := by
  unfold p306_j1900 at hp
  obtain ⟨r531, hr532, hp⟩ := bind_some hp
  try dsimp only at hp
  refine e_callV (st := [.int (s3)]) (o := 86) (as := [.int (s1), .int (s0)]) f306_1900 (by decide) rfl rfl (Nat.le_of_ble_eq_true rfl) (WF.t w 86 (by decide)) (Nat.le_of_ble_eq_true rfl) (p297_ok (d + 64) (h) w (s1) (s0) r531 hr532) ?_
  show ex _ 306 (1903, [some (.ref (1)), some (.ref (32)), some (.ref (86)), some (.int (v3))], [.int (r531.1), .int (s3)], r531.2) = _
  by_cases hc533 : (s3) = ((r531.1) : Int32)
  · rw [if_pos hc533] at hp
    refine e_icmp_eq_t f306_1903 hc533 ?_
    refine ex_weak (ls := [some (.ref (1)), some (.ref (32)), some (.ref (86)), some (.int (v3))]) (le2_ok ⟨Or.inr rfl, Or.inr rfl, Or.inr rfl, Or.inr rfl, trivial⟩) ?_
    exact p306_j2120_ok d F (K18) (hK18) (r531.2) ((p297_w (h) w (s1) (s0)  r531 hr532)) (v3) _ hp
  · rw [if_neg hc533] at hp
    refine e_icmp_eq_f f306_1903 hc533 ?_
    refine e_iconst (v := 0) f306_1906 (by decide) ?_
    have hp := Option.some.inj hp
    subst hp
    exact e_ireturn f306_1907 (by decide)
set_option maxRecDepth 100000 in
set_option maxHeartbeats 4000000 in
theorem p306_j1518_ok (d : Nat) (F : Nat) (K18 : HS → Int32 → Option (Int32 × HS)) (hK18 : ∀ (h : HS) (w : WF h) (u3 : Int32) (r : Int32 × HS), K18 h u3 = some r → ex (d + 66) 306 (18, [some (.ref (1)), some (.ref (32)), some (.ref (86)), some (.int (u3))], [], h) = some (some (.int (r.1)), r.2)) (h : HS) (w : WF h) (v3 : Int32) (s0 : Int32) (s1 : Int32) (r : Int32 × HS) (hp : p306_j1518 F K18 h v3 s0 s1 = some r) : ex (d + 66) 306 (1518, [some (.ref (1)), some (.ref (32)), some (.ref (86)), some (.int (v3))], [.int (s0), .int (s1), .ref (32)], h) = some (some (.int (r.1)), r.2) := by
  unfold p306_j1518 at hp
  obtain ⟨r518, hr519, hp⟩ := bind_some hp
  try dsimp only at hp
  refine e_callV (st := []) (o := 32) (as := [.int (s1), .int (s0)]) f306_1518 (by decide) rfl rfl (Nat.le_of_ble_eq_true rfl) (WF.t w 32 (by decide)) (Nat.le_of_ble_eq_true rfl) (p147_ok (d + 63) (h) w (s1) (s0) r518 hr519) ?_
  show ex _ 306 (1521, [some (.ref (1)), some (.ref (32)), some (.ref (86)), some (.int (v3))], [.int (r518.1)], r518.2) = _
  refine e_aload_n f306_1521 rfl ?_
  refine e_aload_n f306_1522 rfl ?_
  refine e_iload_n f306_1523 rfl ?_
  refine e_iconst (v := 1) f306_1524 (by decide) ?_
  refine e_iadd f306_1525 ?_
  by_cases hg520 : ((v3) + (1)) < (0 : Int32) ∨ hN (r518.2) (1) ≤ ((v3) + (1)).toNatClampNeg
  · rw [if_pos hg520] at hp; cases hp
  rw [if_neg hg520] at hp
  refine e_iaload f306_1526 (Or.inr (WF.x (p147_w (h) w (s1) (s0)  r518 hr519) 1 (by decide))) rfl hg520 ?_
  refine e_aload_n f306_1527 rfl ?_
  refine e_iload_n f306_1528 rfl ?_
  refine e_iconst (v := 2) f306_1529 (by decide) ?_
  refine e_iadd f306_1530 ?_
  by_cases hg521 : ((v3) + (2)) < (0 : Int32) ∨ hN (r518.2) (1) ≤ ((v3) + (2)).toNatClampNeg
  · rw [if_pos hg521] at hp; cases hp
  rw [if_neg hg521] at hp
  refine e_iaload f306_1531 (Or.inr (WF.x (p147_w (h) w (s1) (s0)  r518 hr519) 1 (by decide))) rfl hg521 ?_
  by_cases hc522 : (hI (r518.2) (1) ((v3) + (2)).toNatClampNeg) = (0 : Int32)
  · rw [if_pos hc522] at hp
    refine e_if_eq_t f306_1532 hc522 ?_
    refine e_iconst (v := 0) f306_1539 (by decide) ?_
    refine ex_weak (ls := [some (.ref (1)), some (.ref (32)), some (.ref (86)), some (.int (v3))]) (le2_ok ⟨Or.inr rfl, Or.inr rfl, Or.inr rfl, Or.inr rfl, trivial⟩) ?_
    exact p306_j1540_ok d F (K18) (hK18) (r518.2) ((p147_w (h) w (s1) (s0)  r518 hr519)) (v3) (0) (hI (r518.2) (1) ((v3) + (1)).toNatClampNeg) (r518.1) _ hp
  · rw [if_neg hc522] at hp
    refine e_if_eq_f f306_1532 hc522 ?_
    refine e_iconst (v := 1) f306_1535 (by decide) ?_
    refine e_goto f306_1536 ?_
    refine ex_weak (ls := [some (.ref (1)), some (.ref (32)), some (.ref (86)), some (.int (v3))]) (le2_ok ⟨Or.inr rfl, Or.inr rfl, Or.inr rfl, Or.inr rfl, trivial⟩) ?_
    exact p306_j1540_ok d F (K18) (hK18) (r518.2) ((p147_w (h) w (s1) (s0)  r518 hr519)) (v3) (1) (hI (r518.2) (1) ((v3) + (1)).toNatClampNeg) (r518.1) _ hp
set_option maxRecDepth 100000 in
set_option maxHeartbeats 4000000 in
theorem p306_j1878_ok (d : Nat) (F : Nat) (K18 : HS → Int32 → Option (Int32 × HS)) (hK18 : ∀ (h : HS) (w : WF h) (u3 : Int32) (r : Int32 × HS), K18 h u3 = some r → ex (d + 66) 306 (18, [some (.ref (1)), some (.ref (32)), some (.ref (86)), some (.int (u3))], [], h) = some (some (.int (r.1)), r.2)) (h : HS) (w : WF h) (v3 : Int32) (s0 : Int32) (s1 : Int32) (r : Int32 × HS) (hp : p306_j1878 F K18 h v3 s0 s1 = some r) : ex (d + 66) 306 (1878, [some (.ref (1)), some (.ref (32)), some (.ref (86)), some (.int (v3))], [.int (s0), .int (s1), .ref (32)], h) = some (some (.int (r.1)), r.2) := by
  unfold p306_j1878 at hp
  obtain ⟨r523, hr524, hp⟩ := bind_some hp
  try dsimp only at hp
  refine e_callV (st := []) (o := 32) (as := [.int (s1), .int (s0)]) f306_1878 (by decide) rfl rfl (Nat.le_of_ble_eq_true rfl) (WF.t w 32 (by decide)) (Nat.le_of_ble_eq_true rfl) (p158_ok (d + 63) (h) w (s1) (s0) r523 hr524) ?_
  show ex _ 306 (1881, [some (.ref (1)), some (.ref (32)), some (.ref (86)), some (.int (v3))], [.int (r523.1)], r523.2) = _
  refine e_aload_n f306_1881 rfl ?_
  refine e_aload_n f306_1882 rfl ?_
  refine e_iload_n f306_1883 rfl ?_
  refine e_iconst (v := 1) f306_1884 (by decide) ?_
  refine e_iadd f306_1885 ?_
  by_cases hg525 : ((v3) + (1)) < (0 : Int32) ∨ hN (r523.2) (1) ≤ ((v3) + (1)).toNatClampNeg
  · rw [if_pos hg525] at hp; cases hp
  rw [if_neg hg525] at hp
  refine e_iaload f306_1886 (Or.inr (WF.x (p158_w (h) w (s1) (s0)  r523 hr524) 1 (by decide))) rfl hg525 ?_
  refine e_aload_n f306_1887 rfl ?_
  refine e_iload_n f306_1888 rfl ?_
  refine e_iconst (v := 2) f306_1889 (by decide) ?_
  refine e_iadd f306_1890 ?_
  by_cases hg526 : ((v3) + (2)) < (0 : Int32) ∨ hN (r523.2) (1) ≤ ((v3) + (2)).toNatClampNeg
  · rw [if_pos hg526] at hp; cases hp
  rw [if_neg hg526] at hp
  refine e_iaload f306_1891 (Or.inr (WF.x (p158_w (h) w (s1) (s0)  r523 hr524) 1 (by decide))) rfl hg526 ?_
  by_cases hc527 : (hI (r523.2) (1) ((v3) + (2)).toNatClampNeg) = (0 : Int32)
  · rw [if_pos hc527] at hp
    refine e_if_eq_t f306_1892 hc527 ?_
    refine e_iconst (v := 0) f306_1899 (by decide) ?_
    refine ex_weak (ls := [some (.ref (1)), some (.ref (32)), some (.ref (86)), some (.int (v3))]) (le2_ok ⟨Or.inr rfl, Or.inr rfl, Or.inr rfl, Or.inr rfl, trivial⟩) ?_
    exact p306_j1900_ok d F (K18) (hK18) (r523.2) ((p158_w (h) w (s1) (s0)  r523 hr524)) (v3) (0) (hI (r523.2) (1) ((v3) + (1)).toNatClampNeg) (r523.1) _ hp
  · rw [if_neg hc527] at hp
    refine e_if_eq_f f306_1892 hc527 ?_
    refine e_iconst (v := 1) f306_1895 (by decide) ?_
    refine e_goto f306_1896 ?_
    refine ex_weak (ls := [some (.ref (1)), some (.ref (32)), some (.ref (86)), some (.int (v3))]) (le2_ok ⟨Or.inr rfl, Or.inr rfl, Or.inr rfl, Or.inr rfl, trivial⟩) ?_
    exact p306_j1900_ok d F (K18) (hK18) (r523.2) ((p158_w (h) w (s1) (s0)  r523 hr524)) (v3) (1) (hI (r523.2) (1) ((v3) + (1)).toNatClampNeg) (r523.1) _ hp
