/-! calls that change: a new sheet -/
def sq0 (h : HS) (o : Nat) : HS := hsI (hsI h o 2 4000) o 3 4000
def sq1 (h : HS) (o : Nat) : HS := hnew (sq0 h o) 23 20 (fun _ => 0)
def sq2 (h : HS) (o : Nat) : HS := hsR (sq1 h o) o 8 (some (sq0 h o).1)
def sq3 (h : HS) (o : Nat) : HS := hnew (sq2 h o) 20 20 (fun _ => 0)
def sq4 (h : HS) (o : Nat) : HS := hsR (sq3 h o) o 9 (some (sq2 h o).1)
def sq5 (h : HS) (o : Nat) : HS := hnew (sq4 h o) 20 20 (fun _ => 0)
def sq6 (h : HS) (o : Nat) : HS := hsR (sq5 h o) o 10 (some (sq4 h o).1)
def sq7 (h : HS) (o : Nat) : HS := hnew (sq6 h o) 20 20 (fun _ => 0)
def sq8 (h : HS) (o : Nat) : HS := hsR (sq7 h o) o 11 (some (sq6 h o).1)
def sq9 (h : HS) (o : Nat) : HS := hnew (sq8 h o) 20 20 (fun _ => 0)
def sqA (h : HS) (o : Nat) : HS := hsR (sq9 h o) o 12 (some (sq8 h o).1)
def shn (h : HS) (num came : Int32) : HS := hsI (hsI (sqA (hnew h 9 13 (fun _ => 0)) h.1) h.1 0 num) h.1 1 came
theorem sq0_1 (h : HS) (o : Nat) : (sq0 h o).1 = h.1 := Eq.trans rfl rfl
theorem sq1_1 (h : HS) (o : Nat) : (sq1 h o).1 = h.1 + 1 := by
  have e : (sq1 h o).1 = (sq0 h o).1 + 1 := by unfold sq1; exact h1_W _ _ _ _
  rw [e, sq0_1]
theorem sq2_1 (h : HS) (o : Nat) : (sq2 h o).1 = h.1 + 1 := by
  have e : (sq2 h o).1 = (sq1 h o).1 := by unfold sq2; rw [hsR_ha]; exact h1_R _ _ _
  rw [e, sq1_1]
theorem sq3_1 (h : HS) (o : Nat) : (sq3 h o).1 = h.1 + 2 := by
  have e : (sq3 h o).1 = (sq2 h o).1 + 1 := by unfold sq3; exact h1_W _ _ _ _
  rw [e, sq2_1]
theorem sq4_1 (h : HS) (o : Nat) : (sq4 h o).1 = h.1 + 2 := by
  have e : (sq4 h o).1 = (sq3 h o).1 := by unfold sq4; rw [hsR_ha]; exact h1_R _ _ _
  rw [e, sq3_1]
theorem sq5_1 (h : HS) (o : Nat) : (sq5 h o).1 = h.1 + 3 := by
  have e : (sq5 h o).1 = (sq4 h o).1 + 1 := by unfold sq5; exact h1_W _ _ _ _
  rw [e, sq4_1]
theorem sq6_1 (h : HS) (o : Nat) : (sq6 h o).1 = h.1 + 3 := by
  have e : (sq6 h o).1 = (sq5 h o).1 := by unfold sq6; rw [hsR_ha]; exact h1_R _ _ _
  rw [e, sq5_1]
theorem sq7_1 (h : HS) (o : Nat) : (sq7 h o).1 = h.1 + 4 := by
  have e : (sq7 h o).1 = (sq6 h o).1 + 1 := by unfold sq7; exact h1_W _ _ _ _
  rw [e, sq6_1]
theorem sq8_1 (h : HS) (o : Nat) : (sq8 h o).1 = h.1 + 4 := by
  have e : (sq8 h o).1 = (sq7 h o).1 := by unfold sq8; rw [hsR_ha]; exact h1_R _ _ _
  rw [e, sq7_1]
theorem sq9_1 (h : HS) (o : Nat) : (sq9 h o).1 = h.1 + 5 := by
  have e : (sq9 h o).1 = (sq8 h o).1 + 1 := by unfold sq9; exact h1_W _ _ _ _
  rw [e, sq8_1]
theorem sqA_1 (h : HS) (o : Nat) : (sqA h o).1 = h.1 + 5 := by
  have e : (sqA h o).1 = (sq9 h o).1 := by unfold sqA; rw [hsR_ha]; exact h1_R _ _ _
  rw [e, sq9_1]
theorem c20 : (20 : Int32).toNatClampNeg = 20 := by decide
section W6
variable {h : HS} {num came : Int32} {x : Nat}
theorem shn_T0 (h : HS) : hT (hnew h 9 13 (fun _ => 0)) h.1 = 9 := hT_W _ _ _ _
theorem sq_t1 (h : HS) : hT (sq1 (hnew h 9 13 (fun _ => 0)) h.1) h.1 = 9 := by
  have e : ¬ h.1 = (sq0 (hnew h 9 13 (fun _ => 0)) h.1).1 := by rw [sq0_1, h1_W]; omega
  unfold sq1
  rw [hT_Wn e]
  unfold sq0
  rw [hsI_ha, hT_I, hsI_ha, hT_I]
  exact shn_T0 h
theorem sq_t3 (h : HS) : hT (sq3 (hnew h 9 13 (fun _ => 0)) h.1) h.1 = 9 := by
  have e : ¬ h.1 = (sq2 (hnew h 9 13 (fun _ => 0)) h.1).1 := by rw [sq2_1, h1_W]; omega
  unfold sq3
  rw [hT_Wn e]
  unfold sq2
  rw [hsR_ha, hT_R]
  exact sq_t1 h
theorem sq_t5 (h : HS) : hT (sq5 (hnew h 9 13 (fun _ => 0)) h.1) h.1 = 9 := by
  have e : ¬ h.1 = (sq4 (hnew h 9 13 (fun _ => 0)) h.1).1 := by rw [sq4_1, h1_W]; omega
  unfold sq5
  rw [hT_Wn e]
  unfold sq4
  rw [hsR_ha, hT_R]
  exact sq_t3 h
theorem sq_t7 (h : HS) : hT (sq7 (hnew h 9 13 (fun _ => 0)) h.1) h.1 = 9 := by
  have e : ¬ h.1 = (sq6 (hnew h 9 13 (fun _ => 0)) h.1).1 := by rw [sq6_1, h1_W]; omega
  unfold sq7
  rw [hT_Wn e]
  unfold sq6
  rw [hsR_ha, hT_R]
  exact sq_t5 h
theorem sq_t9 (h : HS) : hT (sq9 (hnew h 9 13 (fun _ => 0)) h.1) h.1 = 9 := by
  have e : ¬ h.1 = (sq8 (hnew h 9 13 (fun _ => 0)) h.1).1 := by rw [sq8_1, h1_W]; omega
  unfold sq9
  rw [hT_Wn e]
  unfold sq8
  rw [hsR_ha, hT_R]
  exact sq_t7 h
theorem pm94 (h : HS) (num came : Int32) : p94 (hnew h 9 13 (fun _ => 0)) h.1 num came = some (shn h num came) := by
  have t1 := sq_t1 h
  have t3 := sq_t3 h
  have t5 := sq_t5 h
  have t7 := sq_t7 h
  have t9 := sq_t9 h
  unfold p94
  rw [c20]
  show (Option.bind (some (sq1 (hnew h 9 13 (fun _ => 0)) h.1)) fun h1 => _) = _
  rw [ob, if_pos t1]
  show (Option.bind (some (sq3 (hnew h 9 13 (fun _ => 0)) h.1)) fun h1 => _) = _
  rw [ob, if_pos t3]
  show (Option.bind (some (sq4 (hnew h 9 13 (fun _ => 0)) h.1)) fun h1 => _) = _
  rw [ob]
  show (Option.bind (some (sq5 (hnew h 9 13 (fun _ => 0)) h.1)) fun h1 => _) = _
  rw [ob, if_pos t5]
  show (Option.bind (some (sq7 (hnew h 9 13 (fun _ => 0)) h.1)) fun h1 => _) = _
  rw [ob, if_pos t7]
  show (Option.bind (some (sq9 (hnew h 9 13 (fun _ => 0)) h.1)) fun h1 => _) = _
  rw [ob, if_pos t9]
  rfl
theorem shn_1 (h : HS) (num came : Int32) : (shn h num came).1 = h.1 + 6 := by
  unfold shn
  rw [hsI_ha, h1_I, hsI_ha, h1_I, sqA_1, h1_W]
theorem shn_In (e : x < h.1 ∨ h.1 + 6 ≤ x) : hI (shn h num came) x = hI h x := by
  have e0 : ¬ x = h.1 := by omega
  have e1 : ¬ x = (sq0 (hnew h 9 13 (fun _ => 0)) h.1).1 := by rw [sq0_1, h1_W]; omega
  have e2 : ¬ x = (sq2 (hnew h 9 13 (fun _ => 0)) h.1).1 := by rw [sq2_1, h1_W]; omega
  have e3 : ¬ x = (sq4 (hnew h 9 13 (fun _ => 0)) h.1).1 := by rw [sq4_1, h1_W]; omega
  have e4 : ¬ x = (sq6 (hnew h 9 13 (fun _ => 0)) h.1).1 := by rw [sq6_1, h1_W]; omega
  have e5 : ¬ x = (sq8 (hnew h 9 13 (fun _ => 0)) h.1).1 := by rw [sq8_1, h1_W]; omega
  rw [shn, hsI_ha, hI_In e0, hsI_ha, hI_In e0, sqA, hsR_ha, hI_R, sq9, hI_Wn e5, sq8, hsR_ha, hI_R, sq7, hI_Wn e4, sq6, hsR_ha, hI_R, sq5, hI_Wn e3, sq4, hsR_ha, hI_R, sq3, hI_Wn e2, sq2, hsR_ha, hI_R, sq1, hI_Wn e1, sq0, hsI_ha, hI_In e0, hsI_ha, hI_In e0, hI_Wn e0]
theorem shn_L (e : x < h.1 ∨ h.1 + 6 ≤ x) : hL (shn h num came) x = hL h x := by
  have e0 : ¬ x = h.1 := by omega
  have e1 : ¬ x = (sq0 (hnew h 9 13 (fun _ => 0)) h.1).1 := by rw [sq0_1, h1_W]; omega
  have e2 : ¬ x = (sq2 (hnew h 9 13 (fun _ => 0)) h.1).1 := by rw [sq2_1, h1_W]; omega
  have e3 : ¬ x = (sq4 (hnew h 9 13 (fun _ => 0)) h.1).1 := by rw [sq4_1, h1_W]; omega
  have e4 : ¬ x = (sq6 (hnew h 9 13 (fun _ => 0)) h.1).1 := by rw [sq6_1, h1_W]; omega
  have e5 : ¬ x = (sq8 (hnew h 9 13 (fun _ => 0)) h.1).1 := by rw [sq8_1, h1_W]; omega
  rw [shn, hsI_ha, hL_I, hsI_ha, hL_I, sqA, hsR_ha, hL_R, sq9, hL_Wn e5, sq8, hsR_ha, hL_R, sq7, hL_Wn e4, sq6, hsR_ha, hL_R, sq5, hL_Wn e3, sq4, hsR_ha, hL_R, sq3, hL_Wn e2, sq2, hsR_ha, hL_R, sq1, hL_Wn e1, sq0, hsI_ha, hL_I, hsI_ha, hL_I, hL_Wn e0]
theorem shn_R (e : x < h.1 ∨ h.1 + 6 ≤ x) : hR (shn h num came) x = hR h x := by
  have e0 : ¬ x = h.1 := by omega
  have e1 : ¬ x = (sq0 (hnew h 9 13 (fun _ => 0)) h.1).1 := by rw [sq0_1, h1_W]; omega
  have e2 : ¬ x = (sq2 (hnew h 9 13 (fun _ => 0)) h.1).1 := by rw [sq2_1, h1_W]; omega
  have e3 : ¬ x = (sq4 (hnew h 9 13 (fun _ => 0)) h.1).1 := by rw [sq4_1, h1_W]; omega
  have e4 : ¬ x = (sq6 (hnew h 9 13 (fun _ => 0)) h.1).1 := by rw [sq6_1, h1_W]; omega
  have e5 : ¬ x = (sq8 (hnew h 9 13 (fun _ => 0)) h.1).1 := by rw [sq8_1, h1_W]; omega
  rw [shn, hsI_ha, hR_I, hsI_ha, hR_I, sqA, hsR_ha, hR_Rn e0, sq9, hR_Wn e5, sq8, hsR_ha, hR_Rn e0, sq7, hR_Wn e4, sq6, hsR_ha, hR_Rn e0, sq5, hR_Wn e3, sq4, hsR_ha, hR_Rn e0, sq3, hR_Wn e2, sq2, hsR_ha, hR_Rn e0, sq1, hR_Wn e1, sq0, hsI_ha, hR_I, hsI_ha, hR_I, hR_Wn e0]
theorem shn_T (e : x < h.1 ∨ h.1 + 6 ≤ x) : hT (shn h num came) x = hT h x ∧ hN (shn h num came) x = hN h x := by
  have e0 : ¬ x = h.1 := by omega
  have e1 : ¬ x = (sq0 (hnew h 9 13 (fun _ => 0)) h.1).1 := by rw [sq0_1, h1_W]; omega
  have e2 : ¬ x = (sq2 (hnew h 9 13 (fun _ => 0)) h.1).1 := by rw [sq2_1, h1_W]; omega
  have e3 : ¬ x = (sq4 (hnew h 9 13 (fun _ => 0)) h.1).1 := by rw [sq4_1, h1_W]; omega
  have e4 : ¬ x = (sq6 (hnew h 9 13 (fun _ => 0)) h.1).1 := by rw [sq6_1, h1_W]; omega
  have e5 : ¬ x = (sq8 (hnew h 9 13 (fun _ => 0)) h.1).1 := by rw [sq8_1, h1_W]; omega
  constructor
  · rw [shn, hsI_ha, hT_I, hsI_ha, hT_I, sqA, hsR_ha, hT_R, sq9, hT_Wn e5, sq8, hsR_ha, hT_R, sq7, hT_Wn e4, sq6, hsR_ha, hT_R, sq5, hT_Wn e3, sq4, hsR_ha, hT_R, sq3, hT_Wn e2, sq2, hsR_ha, hT_R, sq1, hT_Wn e1, sq0, hsI_ha, hT_I, hsI_ha, hT_I, hT_Wn e0]
  · rw [shn, hsI_ha, hN_I, hsI_ha, hN_I, sqA, hsR_ha, hN_R, sq9, hN_Wn e5, sq8, hsR_ha, hN_R, sq7, hN_Wn e4, sq6, hsR_ha, hN_R, sq5, hN_Wn e3, sq4, hsR_ha, hN_R, sq3, hN_Wn e2, sq2, hsR_ha, hN_R, sq1, hN_Wn e1, sq0, hsI_ha, hN_I, hsI_ha, hN_I, hN_Wn e0]
theorem shn_O (h : HS) (num came : Int32) : hI (shn h num came) h.1 = u1 (u1 (u1 (u1 (fun _ => 0) 2 4000) 3 4000) 0 num) 1 came := by
  have e1 : ¬ h.1 = (sq0 (hnew h 9 13 (fun _ => 0)) h.1).1 := by rw [sq0_1, h1_W]; omega
  have e2 : ¬ h.1 = (sq2 (hnew h 9 13 (fun _ => 0)) h.1).1 := by rw [sq2_1, h1_W]; omega
  have e3 : ¬ h.1 = (sq4 (hnew h 9 13 (fun _ => 0)) h.1).1 := by rw [sq4_1, h1_W]; omega
  have e4 : ¬ h.1 = (sq6 (hnew h 9 13 (fun _ => 0)) h.1).1 := by rw [sq6_1, h1_W]; omega
  have e5 : ¬ h.1 = (sq8 (hnew h 9 13 (fun _ => 0)) h.1).1 := by rw [sq8_1, h1_W]; omega
  rw [shn, hsI_ha, hI_I, hsI_ha, hI_I, sqA, hsR_ha, hI_R, sq9, hI_Wn e5, sq8, hsR_ha, hI_R, sq7, hI_Wn e4, sq6, hsR_ha, hI_R, sq5, hI_Wn e3, sq4, hsR_ha, hI_R, sq3, hI_Wn e2, sq2, hsR_ha, hI_R, sq1, hI_Wn e1, sq0, hsI_ha, hI_I, hsI_ha, hI_I, hI_W]
theorem shn_OR (h : HS) (num came : Int32) : hR (shn h num came) h.1 = u1 (u1 (u1 (u1 (u1 (fun _ => none) 8 (some (h.1 + 1))) 9 (some (h.1 + 2))) 10 (some (h.1 + 3))) 11 (some (h.1 + 4))) 12 (some (h.1 + 5)) := by
  have e1 : ¬ h.1 = (sq0 (hnew h 9 13 (fun _ => 0)) h.1).1 := by rw [sq0_1, h1_W]; omega
  have e2 : ¬ h.1 = (sq2 (hnew h 9 13 (fun _ => 0)) h.1).1 := by rw [sq2_1, h1_W]; omega
  have e3 : ¬ h.1 = (sq4 (hnew h 9 13 (fun _ => 0)) h.1).1 := by rw [sq4_1, h1_W]; omega
  have e4 : ¬ h.1 = (sq6 (hnew h 9 13 (fun _ => 0)) h.1).1 := by rw [sq6_1, h1_W]; omega
  have e5 : ¬ h.1 = (sq8 (hnew h 9 13 (fun _ => 0)) h.1).1 := by rw [sq8_1, h1_W]; omega
  have r9 : hR (sq9 (hnew h 9 13 (fun _ => 0)) h.1) h.1 = hR (sq8 (hnew h 9 13 (fun _ => 0)) h.1) h.1 := by unfold sq9; exact hR_Wn e5
  have r7 : hR (sq7 (hnew h 9 13 (fun _ => 0)) h.1) h.1 = hR (sq6 (hnew h 9 13 (fun _ => 0)) h.1) h.1 := by unfold sq7; exact hR_Wn e4
  have r5 : hR (sq5 (hnew h 9 13 (fun _ => 0)) h.1) h.1 = hR (sq4 (hnew h 9 13 (fun _ => 0)) h.1) h.1 := by unfold sq5; exact hR_Wn e3
  have r3 : hR (sq3 (hnew h 9 13 (fun _ => 0)) h.1) h.1 = hR (sq2 (hnew h 9 13 (fun _ => 0)) h.1) h.1 := by unfold sq3; exact hR_Wn e2
  have r1 : hR (sq1 (hnew h 9 13 (fun _ => 0)) h.1) h.1 = fun _ => none := by unfold sq1 sq0; rw [hR_Wn (by have := sq0_1 (hnew h 9 13 (fun _ => 0)) h.1; unfold sq0 at this; rw [this, h1_W]; omega), hsI_ha, hR_I, hsI_ha, hR_I, hR_W]
  have r2 : hR (sq2 (hnew h 9 13 (fun _ => 0)) h.1) h.1 = u1 (fun _ => none) 8 (some (h.1 + 1)) := by unfold sq2; rw [hsR_ha, hR_R, r1, sq0_1, h1_W]
  have r4 : hR (sq4 (hnew h 9 13 (fun _ => 0)) h.1) h.1 = u1 (u1 (fun _ => none) 8 (some (h.1 + 1))) 9 (some (h.1 + 2)) := by unfold sq4; rw [hsR_ha, hR_R, r3, r2, sq2_1, h1_W]
  have r6 : hR (sq6 (hnew h 9 13 (fun _ => 0)) h.1) h.1 = u1 (u1 (u1 (fun _ => none) 8 (some (h.1 + 1))) 9 (some (h.1 + 2))) 10 (some (h.1 + 3)) := by unfold sq6; rw [hsR_ha, hR_R, r5, r4, sq4_1, h1_W]
  have r8 : hR (sq8 (hnew h 9 13 (fun _ => 0)) h.1) h.1 = u1 (u1 (u1 (u1 (fun _ => none) 8 (some (h.1 + 1))) 9 (some (h.1 + 2))) 10 (some (h.1 + 3))) 11 (some (h.1 + 4)) := by unfold sq8; rw [hsR_ha, hR_R, r7, r6, sq6_1, h1_W]
  unfold shn sqA
  rw [hsI_ha, hR_I, hsI_ha, hR_I, hsR_ha, hR_R, r9, r8, sq8_1, h1_W]
theorem shn_OT (h : HS) (num came : Int32) : hT (shn h num came) h.1 = 9 := by
  rw [shn, hsI_ha, hT_I, hsI_ha, hT_I, sqA, hsR_ha, hT_R, sq_t9]
def shtC (n : Nat) (h : HS) (now : Int32) : HS := hsI (hsR (shn h (nI n) now) 49 n (some h.1)) 32 2 (nI (n + 1))
def shtM (n : Nat) (h : HS) (now : Int32) : HS := hsI (hsI (hsI (hsI h 95 n now) 96 n (nI 100000)) 97 n (nI 100000)) 86 14 (nI (n + 1))
theorem pm172 {h : HS} {n : Nat} {now : Int32} (w1 : 160 ≤ h.1) (hn : n < 200) (e1 : hI h 32 2 = nI n) (e2 : hI h 32 0 = now) : p172 h = some (nI n, shtC n h now) := by
  have k : ¬ 32 = h.1 := by omega
  have k3 : hI (shn h (nI n) now) 32 = hI h 32 := shn_In (by omega)
  unfold p172 shtC
  rw [ob, hI_Wn k, e1, e2, pm94, ob, if_pos (shn_OT _ _ _), if_neg (nI_in (by omega) (by omega)), nI_clamp (by omega), ob]
  simp only [hsR_ha, hI_R, k3, e1, nI_1]
end W6
