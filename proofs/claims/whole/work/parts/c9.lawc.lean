/-! the law's loop: a call at a time -/
section LC
variable {s : SS} {h : HS} {F i Ls : Nat} {K : HS → Int32 → Option (Int32 × HS)}
theorem ixc1 (hi : i + 8 ≤ 4096) : (nI i + 1).toNatClampNeg = i + 1 := by rw [show nI i + 1 = nI (i + 1) from nI_add i 1, nI_clamp (by omega)]
theorem ixn1 (hi : i + 8 ≤ 4096) : (nI i + 1 < 0) = False := by rw [show nI i + 1 = nI (i + 1) from nI_add i 1]; exact eq_false (nI_pos (by omega))
theorem ixl1 (hi : i + 8 ≤ Ls) : (Ls ≤ i + 1) = False := eq_false (by omega)
theorem ixc2 (hi : i + 8 ≤ 4096) : (nI i + 2).toNatClampNeg = i + 2 := by rw [show nI i + 2 = nI (i + 2) from nI_add i 2, nI_clamp (by omega)]
theorem ixn2 (hi : i + 8 ≤ 4096) : (nI i + 2 < 0) = False := by rw [show nI i + 2 = nI (i + 2) from nI_add i 2]; exact eq_false (nI_pos (by omega))
theorem ixl2 (hi : i + 8 ≤ Ls) : (Ls ≤ i + 2) = False := eq_false (by omega)
theorem ixc3 (hi : i + 8 ≤ 4096) : (nI i + 3).toNatClampNeg = i + 3 := by rw [show nI i + 3 = nI (i + 3) from nI_add i 3, nI_clamp (by omega)]
theorem ixn3 (hi : i + 8 ≤ 4096) : (nI i + 3 < 0) = False := by rw [show nI i + 3 = nI (i + 3) from nI_add i 3]; exact eq_false (nI_pos (by omega))
theorem ixl3 (hi : i + 8 ≤ Ls) : (Ls ≤ i + 3) = False := eq_false (by omega)
theorem ixc4 (hi : i + 8 ≤ 4096) : (nI i + 4).toNatClampNeg = i + 4 := by rw [show nI i + 4 = nI (i + 4) from nI_add i 4, nI_clamp (by omega)]
theorem ixn4 (hi : i + 8 ≤ 4096) : (nI i + 4 < 0) = False := by rw [show nI i + 4 = nI (i + 4) from nI_add i 4]; exact eq_false (nI_pos (by omega))
theorem ixl4 (hi : i + 8 ≤ Ls) : (Ls ≤ i + 4) = False := eq_false (by omega)
theorem ixc5 (hi : i + 8 ≤ 4096) : (nI i + 5).toNatClampNeg = i + 5 := by rw [show nI i + 5 = nI (i + 5) from nI_add i 5, nI_clamp (by omega)]
theorem ixn5 (hi : i + 8 ≤ 4096) : (nI i + 5 < 0) = False := by rw [show nI i + 5 = nI (i + 5) from nI_add i 5]; exact eq_false (nI_pos (by omega))
theorem ixl5 (hi : i + 8 ≤ Ls) : (Ls ≤ i + 5) = False := eq_false (by omega)
theorem ixc6 (hi : i + 8 ≤ 4096) : (nI i + 6).toNatClampNeg = i + 6 := by rw [show nI i + 6 = nI (i + 6) from nI_add i 6, nI_clamp (by omega)]
theorem ixn6 (hi : i + 8 ≤ 4096) : (nI i + 6 < 0) = False := by rw [show nI i + 6 = nI (i + 6) from nI_add i 6]; exact eq_false (nI_pos (by omega))
theorem ixl6 (hi : i + 8 ≤ Ls) : (Ls ≤ i + 6) = False := eq_false (by omega)
theorem ixc7 (hi : i + 8 ≤ 4096) : (nI i + 7).toNatClampNeg = i + 7 := by rw [show nI i + 7 = nI (i + 7) from nI_add i 7, nI_clamp (by omega)]
theorem ixn7 (hi : i + 8 ≤ 4096) : (nI i + 7 < 0) = False := by rw [show nI i + 7 = nI (i + 7) from nI_add i 7]; exact eq_false (nI_pos (by omega))
theorem ixl7 (hi : i + 8 ≤ Ls) : (Ls ≤ i + 7) = False := eq_false (by omega)
theorem ix8 : nI i + 8 = nI (i + 8) := nI_add i 8
theorem lgc0 (v : Int64) : lg_cmp v v = 0 := by
  unfold lg_cmp
  simp
def NX (h : HS) (i : Nat) (K : HS → Int32 → Option (Int32 × HS)) (x : Option (Int32 × HS)) : Prop := ∃ g, AX g ∧ GR h g ∧ x = K g (nI (i + 8))
theorem lc0 (A : AL s h) (hL : hN h 1 = Ls) (hi : i + 8 ≤ Ls) (h4 : i + 8 ≤ 4096) (hF : 50000 ≤ F) (kp : ∀ h, WF h → ∀ (a : Int32) r, p114 h a = some r → SK h r.2) : NX h i K (lb0 F K h (nI i)) := by
  obtain ⟨v, h1, h2, e1, e2, X, G⟩ := al_clock A (hI (h) (1) (i + 1))
  have e2 : p190 h1 (hI (h) (1) (i + 1)) = some (v, h2) := e2
  obtain ⟨k1, k2⟩ : hN h1 1 = hN h 1 ∧ hI h1 1 = hI h 1 := kp h A.e.w _ _ e1
  refine ⟨h2, X, G, ?_⟩
  unfold lb0
  simp only [hL, ixc1 h4, ixn1 h4, ixl1 hi, ixc2 h4, ixn2 h4, ixl2 hi, ixc3 h4, ixn3 h4, ixl3 hi, ixc4 h4, ixn4 h4, ixl4 hi, ixc5 h4, ixn5 h4, ixl5 hi, ixc6 h4, ixn6 h4, ixl6 hi, ixc7 h4, ixn7 h4, ixl7 hi, or_self, if_false, if_true, eq_self, ob, ix8, p306_j2120, lgc0, k1, k2, e1, e2]
theorem lc1 (A : AL s h) (hL : hN h 1 = Ls) (hi : i + 8 ≤ Ls) (h4 : i + 8 ≤ 4096) (hF : 50000 ≤ F) (kp : ∀ h, WF h → ∀ (a : Int32) r, p115 h a = some r → SK h r.2) : NX h i K (lb1 F K h (nI i)) := by
  obtain ⟨v, h1, h2, e1, e2, X, G⟩ := al_sack A (hI (h) (1) (i + 1))
  have e2 : p191 h1 (hI (h) (1) (i + 1)) = some (v, h2) := e2
  obtain ⟨k1, k2⟩ : hN h1 1 = hN h 1 ∧ hI h1 1 = hI h 1 := kp h A.e.w _ _ e1
  refine ⟨h2, X, G, ?_⟩
  unfold lb1
  simp only [hL, ixc1 h4, ixn1 h4, ixl1 hi, ixc2 h4, ixn2 h4, ixl2 hi, ixc3 h4, ixn3 h4, ixl3 hi, ixc4 h4, ixn4 h4, ixl4 hi, ixc5 h4, ixn5 h4, ixl5 hi, ixc6 h4, ixn6 h4, ixl6 hi, ixc7 h4, ixn7 h4, ixl7 hi, or_self, if_false, if_true, eq_self, ob, ix8, p306_j2120, lgc0, k1, k2, e1, e2]
theorem lc2 (A : AL s h) (hL : hN h 1 = Ls) (hi : i + 8 ≤ Ls) (h4 : i + 8 ≤ 4096) (hF : 50000 ≤ F) (kp : ∀ h, WF h → ∀ (a : Int32) (b : Int32) (c : Int64) r, p116 h a b c = some r → SK h r.2) : NX h i K (lb2 F K h (nI i)) := by
  obtain ⟨v, h1, h2, e1, e2, X, G⟩ := al_scrap A hF (hI (h) (1) (i + 1)) (hI (h) (1) (i + 2)) ((((hI (h) (1) (i + 3)).toInt64) <<< ((32 : Int32).toInt64 &&& 63)) ||| (((hI (h) (1) (i + 4)).toInt64) &&& ((4294967295 : Int64))))
  have e2 : p192 F h1 (hI (h) (1) (i + 1)) (hI (h) (1) (i + 2)) ((((hI (h) (1) (i + 3)).toInt64) <<< ((32 : Int32).toInt64 &&& 63)) ||| (((hI (h) (1) (i + 4)).toInt64) &&& ((4294967295 : Int64)))) = some (v, h2) := e2
  obtain ⟨k1, k2⟩ : hN h1 1 = hN h 1 ∧ hI h1 1 = hI h 1 := kp h A.e.w _ _ _ _ e1
  refine ⟨h2, X, G, ?_⟩
  unfold lb2
  simp only [hL, ixc1 h4, ixn1 h4, ixl1 hi, ixc2 h4, ixn2 h4, ixl2 hi, ixc3 h4, ixn3 h4, ixl3 hi, ixc4 h4, ixn4 h4, ixl4 hi, ixc5 h4, ixn5 h4, ixl5 hi, ixc6 h4, ixn6 h4, ixl6 hi, ixc7 h4, ixn7 h4, ixl7 hi, or_self, if_false, if_true, eq_self, ob, ix8, p306_j2120, lgc0, k1, k2, e1, e2]
theorem lc3 (A : AL s h) (hL : hN h 1 = Ls) (hi : i + 8 ≤ Ls) (h4 : i + 8 ≤ 4096) (hF : 50000 ≤ F) : NX h i K (lb3 F K h (nI i)) := by
  obtain ⟨v, e1, e2⟩ := q_scraps A.e A.sc0 (hI (h) (1) (i + 1)) (hI (h) (1) (i + 2))
  refine ⟨h, ⟨s, A⟩, GR.rf h, ?_⟩
  unfold lb3
  simp only [hL, ixc1 h4, ixn1 h4, ixl1 hi, ixc2 h4, ixn2 h4, ixl2 hi, ixc3 h4, ixn3 h4, ixl3 hi, ixc4 h4, ixn4 h4, ixl4 hi, ixc5 h4, ixn5 h4, ixl5 hi, ixc6 h4, ixn6 h4, ixl6 hi, ixc7 h4, ixn7 h4, ixl7 hi, or_self, if_false, if_true, eq_self, ob, ix8, p306_j2120, lgc0, e1, e2]
theorem lc4 (A : AL s h) (hL : hN h 1 = Ls) (hi : i + 8 ≤ Ls) (h4 : i + 8 ≤ 4096) (hF : 50000 ≤ F) : NX h i K (lb4 F K h (nI i)) := by
  obtain ⟨v, e1, e2⟩ := q_fits A.e A.sc0 (hI (h) (1) (i + 1)) (hI (h) (1) (i + 2)) (hI (h) (1) (i + 3))
  refine ⟨h, ⟨s, A⟩, GR.rf h, ?_⟩
  unfold lb4
  simp only [hL, ixc1 h4, ixn1 h4, ixl1 hi, ixc2 h4, ixn2 h4, ixl2 hi, ixc3 h4, ixn3 h4, ixl3 hi, ixc4 h4, ixn4 h4, ixl4 hi, ixc5 h4, ixn5 h4, ixl5 hi, ixc6 h4, ixn6 h4, ixl6 hi, ixc7 h4, ixn7 h4, ixl7 hi, or_self, if_false, if_true, eq_self, ob, ix8, p306_j2120, lgc0, e1, e2]
theorem lc5 (A : AL s h) (hL : hN h 1 = Ls) (hi : i + 8 ≤ Ls) (h4 : i + 8 ≤ 4096) (hF : 50000 ≤ F) (kp : ∀ h, WF h → ∀ (a : Int32) (b : Int32) (c : Int32) r, p119 F h a b c = some r → SK h r.2) : NX h i K (lb5 F K h (nI i)) := by
  obtain ⟨v, h1, h2, e1, e2, X, G⟩ := al_lay A hF (hI (h) (1) (i + 1)) (hI (h) (1) (i + 2)) (hI (h) (1) (i + 3))
  have e2 : p201 F h1 (hI (h) (1) (i + 1)) (hI (h) (1) (i + 2)) (hI (h) (1) (i + 3)) = some (v, h2) := e2
  obtain ⟨k1, k2⟩ : hN h1 1 = hN h 1 ∧ hI h1 1 = hI h 1 := kp h A.e.w _ _ _ _ e1
  refine ⟨h2, X, G, ?_⟩
  unfold lb5
  simp only [hL, ixc1 h4, ixn1 h4, ixl1 hi, ixc2 h4, ixn2 h4, ixl2 hi, ixc3 h4, ixn3 h4, ixl3 hi, ixc4 h4, ixn4 h4, ixl4 hi, ixc5 h4, ixn5 h4, ixl5 hi, ixc6 h4, ixn6 h4, ixl6 hi, ixc7 h4, ixn7 h4, ixl7 hi, or_self, if_false, if_true, eq_self, ob, ix8, p306_j2120, lgc0, k1, k2, e1, e2]
theorem lc6 (A : AL s h) (hL : hN h 1 = Ls) (hi : i + 8 ≤ Ls) (h4 : i + 8 ≤ 4096) (hF : 50000 ≤ F) : NX h i K (lb6 F K h (nI i)) := by
  obtain ⟨v, e1, e2⟩ := q_laid A.e A.la0 (hI (h) (1) (i + 1)) (hI (h) (1) (i + 2))
  refine ⟨h, ⟨s, A⟩, GR.rf h, ?_⟩
  unfold lb6
  simp only [hL, ixc1 h4, ixn1 h4, ixl1 hi, ixc2 h4, ixn2 h4, ixl2 hi, ixc3 h4, ixn3 h4, ixl3 hi, ixc4 h4, ixn4 h4, ixl4 hi, ixc5 h4, ixn5 h4, ixl5 hi, ixc6 h4, ixn6 h4, ixl6 hi, ixc7 h4, ixn7 h4, ixl7 hi, or_self, if_false, if_true, eq_self, ob, ix8, p306_j2120, lgc0, e1, e2]
theorem lc7 (A : AL s h) (hL : hN h 1 = Ls) (hi : i + 8 ≤ Ls) (h4 : i + 8 ≤ 4096) (hF : 50000 ≤ F) (kp : ∀ h, WF h → ∀ (a : Int32) (b : Int32) (c : Int64) r, p121 F h a b c = some r → SK h r.2) : NX h i K (lb7 F K h (nI i)) := by
  obtain ⟨v, h1, h2, e1, e2, X, G⟩ := al_judged A hF (hI (h) (1) (i + 1)) (hI (h) (1) (i + 2)) ((((hI (h) (1) (i + 3)).toInt64) <<< ((32 : Int32).toInt64 &&& 63)) ||| (((hI (h) (1) (i + 4)).toInt64) &&& ((4294967295 : Int64))))
  have e2 : p203 F h1 (hI (h) (1) (i + 1)) (hI (h) (1) (i + 2)) ((((hI (h) (1) (i + 3)).toInt64) <<< ((32 : Int32).toInt64 &&& 63)) ||| (((hI (h) (1) (i + 4)).toInt64) &&& ((4294967295 : Int64)))) = some (v, h2) := e2
  obtain ⟨k1, k2⟩ : hN h1 1 = hN h 1 ∧ hI h1 1 = hI h 1 := kp h A.e.w _ _ _ _ e1
  refine ⟨h2, X, G, ?_⟩
  unfold lb7
  simp only [hL, ixc1 h4, ixn1 h4, ixl1 hi, ixc2 h4, ixn2 h4, ixl2 hi, ixc3 h4, ixn3 h4, ixl3 hi, ixc4 h4, ixn4 h4, ixl4 hi, ixc5 h4, ixn5 h4, ixl5 hi, ixc6 h4, ixn6 h4, ixl6 hi, ixc7 h4, ixn7 h4, ixl7 hi, or_self, if_false, if_true, eq_self, ob, ix8, p306_j2120, lgc0, k1, k2, e1, e2]
theorem lc8 (A : AL s h) (hL : hN h 1 = Ls) (hi : i + 8 ≤ Ls) (h4 : i + 8 ≤ 4096) (hF : 50000 ≤ F) (kp : ∀ h, WF h → ∀ (a : Int32) r, p122 F h a = some r → SK h r.2) : NX h i K (lb8 F K h (nI i)) := by
  obtain ⟨v, h1, h2, e1, e2, X, G⟩ := al_take A hF (hI (h) (1) (i + 1))
  have e2 : p207 F h1 (hI (h) (1) (i + 1)) = some (v, h2) := e2
  obtain ⟨k1, k2⟩ : hN h1 1 = hN h 1 ∧ hI h1 1 = hI h 1 := kp h A.e.w _ _ e1
  refine ⟨h2, X, G, ?_⟩
  unfold lb8
  simp only [hL, ixc1 h4, ixn1 h4, ixl1 hi, ixc2 h4, ixn2 h4, ixl2 hi, ixc3 h4, ixn3 h4, ixl3 hi, ixc4 h4, ixn4 h4, ixl4 hi, ixc5 h4, ixn5 h4, ixl5 hi, ixc6 h4, ixn6 h4, ixl6 hi, ixc7 h4, ixn7 h4, ixl7 hi, or_self, if_false, if_true, eq_self, ob, ix8, p306_j2120, lgc0, k1, k2, e1, e2]
theorem lc9 (A : AL s h) (hL : hN h 1 = Ls) (hi : i + 8 ≤ Ls) (h4 : i + 8 ≤ 4096) (hF : 50000 ≤ F) (kp : ∀ h, WF h → ∀  r, p123 h  = some r → SK h r.2) : NX h i K (lb9 F K h (nI i)) := by
  obtain ⟨v, h1, h2, e1, e2, X, G⟩ := al_sheet A 
  have e2 : p204 h1  = some (v, h2) := e2
  obtain ⟨k1, k2⟩ : hN h1 1 = hN h 1 ∧ hI h1 1 = hI h 1 := kp h A.e.w _ e1
  refine ⟨h2, X, G, ?_⟩
  unfold lb9
  simp only [hL, ixc1 h4, ixn1 h4, ixl1 hi, ixc2 h4, ixn2 h4, ixl2 hi, ixc3 h4, ixn3 h4, ixl3 hi, ixc4 h4, ixn4 h4, ixl4 hi, ixc5 h4, ixn5 h4, ixl5 hi, ixc6 h4, ixn6 h4, ixl6 hi, ixc7 h4, ixn7 h4, ixl7 hi, or_self, if_false, if_true, eq_self, ob, ix8, p306_j2120, lgc0, k1, k2, e1, e2]
theorem lc10 (A : AL s h) (hL : hN h 1 = Ls) (hi : i + 8 ≤ Ls) (h4 : i + 8 ≤ 4096) (hF : 50000 ≤ F) (kp : ∀ h, WF h → ∀ (a : Int32) r, p124 F h a = some r → SK h r.2) : NX h i K (lb10 F K h (nI i)) := by
  obtain ⟨v, h1, h2, e1, e2, X, G⟩ := al_tear A hF (hI (h) (1) (i + 1))
  have e2 : p208 F h1 (hI (h) (1) (i + 1)) = some (v, h2) := e2
  obtain ⟨k1, k2⟩ : hN h1 1 = hN h 1 ∧ hI h1 1 = hI h 1 := kp h A.e.w _ _ e1
  refine ⟨h2, X, G, ?_⟩
  unfold lb10
  simp only [hL, ixc1 h4, ixn1 h4, ixl1 hi, ixc2 h4, ixn2 h4, ixl2 hi, ixc3 h4, ixn3 h4, ixl3 hi, ixc4 h4, ixn4 h4, ixl4 hi, ixc5 h4, ixn5 h4, ixl5 hi, ixc6 h4, ixn6 h4, ixl6 hi, ixc7 h4, ixn7 h4, ixl7 hi, or_self, if_false, if_true, eq_self, ob, ix8, p306_j2120, lgc0, k1, k2, e1, e2]
theorem lc11 (A : AL s h) (hL : hN h 1 = Ls) (hi : i + 8 ≤ Ls) (h4 : i + 8 ≤ 4096) (hF : 50000 ≤ F) (kp : ∀ h, WF h → ∀ (a : Int32) r, p125 h a = some r → SK h r.2) : NX h i K (lb11 F K h (nI i)) := by
  obtain ⟨v, h1, h2, e1, e2, X, G⟩ := al_open A (hI (h) (1) (i + 1))
  have e2 : p209 h1 (hI (h) (1) (i + 1)) = some (v, h2) := e2
  obtain ⟨k1, k2⟩ : hN h1 1 = hN h 1 ∧ hI h1 1 = hI h 1 := kp h A.e.w _ _ e1
  refine ⟨h2, X, G, ?_⟩
  unfold lb11
  simp only [hL, ixc1 h4, ixn1 h4, ixl1 hi, ixc2 h4, ixn2 h4, ixl2 hi, ixc3 h4, ixn3 h4, ixl3 hi, ixc4 h4, ixn4 h4, ixl4 hi, ixc5 h4, ixn5 h4, ixl5 hi, ixc6 h4, ixn6 h4, ixl6 hi, ixc7 h4, ixn7 h4, ixl7 hi, or_self, if_false, if_true, eq_self, ob, ix8, p306_j2120, lgc0, k1, k2, e1, e2]
theorem lc12 (A : AL s h) (hL : hN h 1 = Ls) (hi : i + 8 ≤ Ls) (h4 : i + 8 ≤ 4096) (hF : 50000 ≤ F) : NX h i K (lb12 F K h (nI i)) := by
  obtain ⟨v, e1, e2⟩ := q_sheets (F := F) A.e A.ct0 (by omega) (hI (h) (1) (i + 1)) (hI (h) (1) (i + 2))
  refine ⟨h, ⟨s, A⟩, GR.rf h, ?_⟩
  unfold lb12
  simp only [hL, ixc1 h4, ixn1 h4, ixl1 hi, ixc2 h4, ixn2 h4, ixl2 hi, ixc3 h4, ixn3 h4, ixl3 hi, ixc4 h4, ixn4 h4, ixl4 hi, ixc5 h4, ixn5 h4, ixl5 hi, ixc6 h4, ixn6 h4, ixl6 hi, ixc7 h4, ixn7 h4, ixl7 hi, or_self, if_false, if_true, eq_self, ob, ix8, p306_j2120, lgc0, e1, e2]
theorem lc13 (A : AL s h) (hL : hN h 1 = Ls) (hi : i + 8 ≤ Ls) (h4 : i + 8 ≤ 4096) (hF : 50000 ≤ F) (kp : ∀ h, WF h → ∀ (a : Int32) r, p127 h a = some r → SK h r.2) : NX h i K (lb13 F K h (nI i)) := by
  obtain ⟨v, h1, h2, e1, e2, X, G⟩ := al_person A (hI (h) (1) (i + 1))
  have e2 : p212 h1 (hI (h) (1) (i + 1)) = some (v, h2) := e2
  obtain ⟨k1, k2⟩ : hN h1 1 = hN h 1 ∧ hI h1 1 = hI h 1 := kp h A.e.w _ _ e1
  refine ⟨h2, X, G, ?_⟩
  unfold lb13
  simp only [hL, ixc1 h4, ixn1 h4, ixl1 hi, ixc2 h4, ixn2 h4, ixl2 hi, ixc3 h4, ixn3 h4, ixl3 hi, ixc4 h4, ixn4 h4, ixl4 hi, ixc5 h4, ixn5 h4, ixl5 hi, ixc6 h4, ixn6 h4, ixl6 hi, ixc7 h4, ixn7 h4, ixl7 hi, or_self, if_false, if_true, eq_self, ob, ix8, p306_j2120, lgc0, k1, k2, e1, e2]
theorem lc14 (A : AL s h) (hL : hN h 1 = Ls) (hi : i + 8 ≤ Ls) (h4 : i + 8 ≤ 4096) (hF : 50000 ≤ F) (kp : ∀ h, WF h → ∀ (a : Int32) (b : Int32) (c : Int32) (d : Int32) r, p128 h a b c d = some r → SK h r.2) : NX h i K (lb14 F K h (nI i)) := by
  obtain ⟨v, h1, h2, e1, e2, X, G⟩ := al_seen A (hI (h) (1) (i + 1)) (hI (h) (1) (i + 2)) (hI (h) (1) (i + 3)) (hI (h) (1) (i + 4))
  have e2 : p214 h1 (hI (h) (1) (i + 1)) (hI (h) (1) (i + 2)) (hI (h) (1) (i + 3)) (hI (h) (1) (i + 4)) = some (v, h2) := e2
  obtain ⟨k1, k2⟩ : hN h1 1 = hN h 1 ∧ hI h1 1 = hI h 1 := kp h A.e.w _ _ _ _ _ e1
  refine ⟨h2, X, G, ?_⟩
  unfold lb14
  simp only [hL, ixc1 h4, ixn1 h4, ixl1 hi, ixc2 h4, ixn2 h4, ixl2 hi, ixc3 h4, ixn3 h4, ixl3 hi, ixc4 h4, ixn4 h4, ixl4 hi, ixc5 h4, ixn5 h4, ixl5 hi, ixc6 h4, ixn6 h4, ixl6 hi, ixc7 h4, ixn7 h4, ixl7 hi, or_self, if_false, if_true, eq_self, ob, ix8, p306_j2120, lgc0, k1, k2, e1, e2]
theorem lc15 (A : AL s h) (hL : hN h 1 = Ls) (hi : i + 8 ≤ Ls) (h4 : i + 8 ≤ 4096) (hF : 50000 ≤ F) (kp : ∀ h, WF h → ∀ (a : Int32) r, p129 h a = some r → SK h r.2) : NX h i K (lb15 F K h (nI i)) := by
  obtain ⟨v, h1, h2, e1, e2, X, G⟩ := al_unsee A (hI (h) (1) (i + 1))
  have e2 : p215 h1 (hI (h) (1) (i + 1)) = some (v, h2) := e2
  obtain ⟨k1, k2⟩ : hN h1 1 = hN h 1 ∧ hI h1 1 = hI h 1 := kp h A.e.w _ _ e1
  refine ⟨h2, X, G, ?_⟩
  unfold lb15
  simp only [hL, ixc1 h4, ixn1 h4, ixl1 hi, ixc2 h4, ixn2 h4, ixl2 hi, ixc3 h4, ixn3 h4, ixl3 hi, ixc4 h4, ixn4 h4, ixl4 hi, ixc5 h4, ixn5 h4, ixl5 hi, ixc6 h4, ixn6 h4, ixl6 hi, ixc7 h4, ixn7 h4, ixl7 hi, or_self, if_false, if_true, eq_self, ob, ix8, p306_j2120, lgc0, k1, k2, e1, e2]
theorem lc16 (A : AL s h) (hL : hN h 1 = Ls) (hi : i + 8 ≤ Ls) (h4 : i + 8 ≤ 4096) (hF : 50000 ≤ F) (kp : ∀ h, WF h → ∀ (a : Int32) r, p130 h a = some r → SK h r.2) : NX h i K (lb16 F K h (nI i)) := by
  obtain ⟨v, h1, h2, e1, e2, X, G⟩ := al_cover A (hI (h) (1) (i + 1))
  have e2 : p217 h1 (hI (h) (1) (i + 1)) = some (v, h2) := e2
  obtain ⟨k1, k2⟩ : hN h1 1 = hN h 1 ∧ hI h1 1 = hI h 1 := kp h A.e.w _ _ e1
  refine ⟨h2, X, G, ?_⟩
  unfold lb16
  simp only [hL, ixc1 h4, ixn1 h4, ixl1 hi, ixc2 h4, ixn2 h4, ixl2 hi, ixc3 h4, ixn3 h4, ixl3 hi, ixc4 h4, ixn4 h4, ixl4 hi, ixc5 h4, ixn5 h4, ixl5 hi, ixc6 h4, ixn6 h4, ixl6 hi, ixc7 h4, ixn7 h4, ixl7 hi, or_self, if_false, if_true, eq_self, ob, ix8, p306_j2120, lgc0, k1, k2, e1, e2]
theorem lc17 (A : AL s h) (hL : hN h 1 = Ls) (hi : i + 8 ≤ Ls) (h4 : i + 8 ≤ 4096) (hF : 50000 ≤ F) (kp : ∀ h, WF h → ∀ (a : Int32) (b : Int32) (c : Int32) (d : Int32) (e : Int32) (f : Int32) (g : Int32) r, p131 h a b c d e f g = some r → SK h r.2) : NX h i K (lb17 F K h (nI i)) := by
  obtain ⟨v, h1, h2, e1, e2, X, G⟩ := al_report A (hI (h) (1) (i + 1)) (hI (h) (1) (i + 2)) (hI (h) (1) (i + 3)) (hI (h) (1) (i + 4)) (hI (h) (1) (i + 5)) (hI (h) (1) (i + 6)) (hI (h) (1) (i + 7))
  have e2 : p219 h1 (hI (h) (1) (i + 1)) (hI (h) (1) (i + 2)) (hI (h) (1) (i + 3)) (hI (h) (1) (i + 4)) (hI (h) (1) (i + 5)) (hI (h) (1) (i + 6)) (hI (h) (1) (i + 7)) = some (v, h2) := e2
  obtain ⟨k1, k2⟩ : hN h1 1 = hN h 1 ∧ hI h1 1 = hI h 1 := kp h A.e.w _ _ _ _ _ _ _ _ e1
  refine ⟨h2, X, G, ?_⟩
  unfold lb17
  simp only [hL, ixc1 h4, ixn1 h4, ixl1 hi, ixc2 h4, ixn2 h4, ixl2 hi, ixc3 h4, ixn3 h4, ixl3 hi, ixc4 h4, ixn4 h4, ixl4 hi, ixc5 h4, ixn5 h4, ixl5 hi, ixc6 h4, ixn6 h4, ixl6 hi, ixc7 h4, ixn7 h4, ixl7 hi, or_self, if_false, if_true, eq_self, ob, ix8, p306_j2120, lgc0, k1, k2, e1, e2]
theorem lc18 (A : AL s h) (hL : hN h 1 = Ls) (hi : i + 8 ≤ Ls) (h4 : i + 8 ≤ 4096) (hF : 50000 ≤ F) (kp : ∀ h, WF h → ∀ (a : Int32) r, p132 h a = some r → SK h r.2) : NX h i K (lb18 F K h (nI i)) := by
  obtain ⟨v, h1, h2, e1, e2, X, G⟩ := al_fall A (hI (h) (1) (i + 1))
  have e2 : p221 h1 (hI (h) (1) (i + 1)) = some (v, h2) := e2
  obtain ⟨k1, k2⟩ : hN h1 1 = hN h 1 ∧ hI h1 1 = hI h 1 := kp h A.e.w _ _ e1
  refine ⟨h2, X, G, ?_⟩
  unfold lb18
  simp only [hL, ixc1 h4, ixn1 h4, ixl1 hi, ixc2 h4, ixn2 h4, ixl2 hi, ixc3 h4, ixn3 h4, ixl3 hi, ixc4 h4, ixn4 h4, ixl4 hi, ixc5 h4, ixn5 h4, ixl5 hi, ixc6 h4, ixn6 h4, ixl6 hi, ixc7 h4, ixn7 h4, ixl7 hi, or_self, if_false, if_true, eq_self, ob, ix8, p306_j2120, lgc0, k1, k2, e1, e2]
theorem lc19 (A : AL s h) (hL : hN h 1 = Ls) (hi : i + 8 ≤ Ls) (h4 : i + 8 ≤ 4096) (hF : 50000 ≤ F) : NX h i K (lb19 F K h (nI i)) := by
  obtain ⟨v, e1, e2⟩ := q_known A.e (hI (h) (1) (i + 1)) (hI (h) (1) (i + 2))
  refine ⟨h, ⟨s, A⟩, GR.rf h, ?_⟩
  unfold lb19
  simp only [hL, ixc1 h4, ixn1 h4, ixl1 hi, ixc2 h4, ixn2 h4, ixl2 hi, ixc3 h4, ixn3 h4, ixl3 hi, ixc4 h4, ixn4 h4, ixl4 hi, ixc5 h4, ixn5 h4, ixl5 hi, ixc6 h4, ixn6 h4, ixl6 hi, ixc7 h4, ixn7 h4, ixl7 hi, or_self, if_false, if_true, eq_self, ob, ix8, p306_j2120, lgc0, e1, e2]
theorem lc20 (A : AL s h) (hL : hN h 1 = Ls) (hi : i + 8 ≤ Ls) (h4 : i + 8 ≤ 4096) (hF : 50000 ≤ F) : NX h i K (lb20 F K h (nI i)) := by
  obtain ⟨v, e1, e2⟩ := q_out (F := F) A.e (by omega) (hI (h) (1) (i + 1)) (hI (h) (1) (i + 2)) (hI (h) (1) (i + 3))
  refine ⟨h, ⟨s, A⟩, GR.rf h, ?_⟩
  unfold lb20
  simp only [hL, ixc1 h4, ixn1 h4, ixl1 hi, ixc2 h4, ixn2 h4, ixl2 hi, ixc3 h4, ixn3 h4, ixl3 hi, ixc4 h4, ixn4 h4, ixl4 hi, ixc5 h4, ixn5 h4, ixl5 hi, ixc6 h4, ixn6 h4, ixl6 hi, ixc7 h4, ixn7 h4, ixl7 hi, or_self, if_false, if_true, eq_self, ob, ix8, p306_j2120, lgc0, e1, e2]
theorem lc21 (A : AL s h) (hL : hN h 1 = Ls) (hi : i + 8 ≤ Ls) (h4 : i + 8 ≤ 4096) (hF : 50000 ≤ F) : NX h i K (lb21 F K h (nI i)) := by
  obtain ⟨v, e1, e2⟩ := q_candidate (F := F) A.e (by omega) (hI (h) (1) (i + 1)) (hI (h) (1) (i + 2)) (hI (h) (1) (i + 3))
  refine ⟨h, ⟨s, A⟩, GR.rf h, ?_⟩
  unfold lb21
  simp only [hL, ixc1 h4, ixn1 h4, ixl1 hi, ixc2 h4, ixn2 h4, ixl2 hi, ixc3 h4, ixn3 h4, ixl3 hi, ixc4 h4, ixn4 h4, ixl4 hi, ixc5 h4, ixn5 h4, ixl5 hi, ixc6 h4, ixn6 h4, ixl6 hi, ixc7 h4, ixn7 h4, ixl7 hi, or_self, if_false, if_true, eq_self, ob, ix8, p306_j2120, lgc0, e1, e2]
theorem lc22 (A : AL s h) (hL : hN h 1 = Ls) (hi : i + 8 ≤ Ls) (h4 : i + 8 ≤ 4096) (hF : 50000 ≤ F) : NX h i K (lb22 F K h (nI i)) := by
  obtain ⟨v, e1, e2⟩ := q_sure (F := F) A.e (by omega) (hI (h) (1) (i + 1)) (hI (h) (1) (i + 2))
  refine ⟨h, ⟨s, A⟩, GR.rf h, ?_⟩
  unfold lb22
  simp only [hL, ixc1 h4, ixn1 h4, ixl1 hi, ixc2 h4, ixn2 h4, ixl2 hi, ixc3 h4, ixn3 h4, ixl3 hi, ixc4 h4, ixn4 h4, ixl4 hi, ixc5 h4, ixn5 h4, ixl5 hi, ixc6 h4, ixn6 h4, ixl6 hi, ixc7 h4, ixn7 h4, ixl7 hi, or_self, if_false, if_true, eq_self, ob, ix8, p306_j2120, lgc0, e1, e2]
theorem lc23 (A : AL s h) (hL : hN h 1 = Ls) (hi : i + 8 ≤ Ls) (h4 : i + 8 ≤ 4096) (hF : 50000 ≤ F) (kp : ∀ h, WF h → ∀ (a : Int32) r, p137 F h a = some r → SK h r.2) : NX h i K (lb23 F K h (nI i)) := by
  obtain ⟨v, h1, h2, e1, e2, X, G⟩ := al_next A hF (hI (h) (1) (i + 1))
  have e2 : p234 F h1 (hI (h) (1) (i + 1)) = some (v, h2) := e2
  obtain ⟨k1, k2⟩ : hN h1 1 = hN h 1 ∧ hI h1 1 = hI h 1 := kp h A.e.w _ _ e1
  refine ⟨h2, X, G, ?_⟩
  unfold lb23
  simp only [hL, ixc1 h4, ixn1 h4, ixl1 hi, ixc2 h4, ixn2 h4, ixl2 hi, ixc3 h4, ixn3 h4, ixl3 hi, ixc4 h4, ixn4 h4, ixl4 hi, ixc5 h4, ixn5 h4, ixl5 hi, ixc6 h4, ixn6 h4, ixl6 hi, ixc7 h4, ixn7 h4, ixl7 hi, or_self, if_false, if_true, eq_self, ob, ix8, p306_j2120, lgc0, k1, k2, e1, e2]
theorem lc24 (A : AL s h) (hL : hN h 1 = Ls) (hi : i + 8 ≤ Ls) (h4 : i + 8 ≤ 4096) (hF : 50000 ≤ F) : NX h i K (lb24 F K h (nI i)) := by
  obtain ⟨v, e1, e2⟩ := q_made (F := F) A.e (by omega) (hI (h) (1) (i + 1)) (hI (h) (1) (i + 2)) (hI (h) (1) (i + 3))
  refine ⟨h, ⟨s, A⟩, GR.rf h, ?_⟩
  unfold lb24
  simp only [hL, ixc1 h4, ixn1 h4, ixl1 hi, ixc2 h4, ixn2 h4, ixl2 hi, ixc3 h4, ixn3 h4, ixl3 hi, ixc4 h4, ixn4 h4, ixl4 hi, ixc5 h4, ixn5 h4, ixl5 hi, ixc6 h4, ixn6 h4, ixl6 hi, ixc7 h4, ixn7 h4, ixl7 hi, or_self, if_false, if_true, eq_self, ob, ix8, p306_j2120, lgc0, e1, e2]
theorem lc25 (A : AL s h) (hL : hN h 1 = Ls) (hi : i + 8 ≤ Ls) (h4 : i + 8 ≤ 4096) (hF : 50000 ≤ F) (kp : ∀ h, WF h → ∀ (a : Int32) (b : Int32) r, p139 h a b = some r → SK h r.2) : NX h i K (lb25 F K h (nI i)) := by
  obtain ⟨v, h1, h2, e1, e2, X, G⟩ := al_premium A (hI (h) (1) (i + 1)) (hI (h) (1) (i + 2))
  have e2 : p238 h1 (hI (h) (1) (i + 1)) (hI (h) (1) (i + 2)) = some (v, h2) := e2
  obtain ⟨k1, k2⟩ : hN h1 1 = hN h 1 ∧ hI h1 1 = hI h 1 := kp h A.e.w _ _ _ e1
  refine ⟨h2, X, G, ?_⟩
  unfold lb25
  simp only [hL, ixc1 h4, ixn1 h4, ixl1 hi, ixc2 h4, ixn2 h4, ixl2 hi, ixc3 h4, ixn3 h4, ixl3 hi, ixc4 h4, ixn4 h4, ixl4 hi, ixc5 h4, ixn5 h4, ixl5 hi, ixc6 h4, ixn6 h4, ixl6 hi, ixc7 h4, ixn7 h4, ixl7 hi, or_self, if_false, if_true, eq_self, ob, ix8, p306_j2120, lgc0, k1, k2, e1, e2]
theorem lc26 (A : AL s h) (hL : hN h 1 = Ls) (hi : i + 8 ≤ Ls) (h4 : i + 8 ≤ 4096) (hF : 50000 ≤ F) (kp : ∀ h, WF h → ∀ (a : Int32) (b : Int32) (c : Int32) (d : Int32) r, p140 h a b c d = some r → SK h r.2) : NX h i K (lb26 F K h (nI i)) := by
  obtain ⟨v, h1, h2, e1, e2, X, G⟩ := al_bill A (hI (h) (1) (i + 1)) (hI (h) (1) (i + 2)) (hI (h) (1) (i + 3)) (hI (h) (1) (i + 4))
  have e2 : p239 h1 (hI (h) (1) (i + 1)) (hI (h) (1) (i + 2)) (hI (h) (1) (i + 3)) (hI (h) (1) (i + 4)) = some (v, h2) := e2
  obtain ⟨k1, k2⟩ : hN h1 1 = hN h 1 ∧ hI h1 1 = hI h 1 := kp h A.e.w _ _ _ _ _ e1
  refine ⟨h2, X, G, ?_⟩
  unfold lb26
  simp only [hL, ixc1 h4, ixn1 h4, ixl1 hi, ixc2 h4, ixn2 h4, ixl2 hi, ixc3 h4, ixn3 h4, ixl3 hi, ixc4 h4, ixn4 h4, ixl4 hi, ixc5 h4, ixn5 h4, ixl5 hi, ixc6 h4, ixn6 h4, ixl6 hi, ixc7 h4, ixn7 h4, ixl7 hi, or_self, if_false, if_true, eq_self, ob, ix8, p306_j2120, lgc0, k1, k2, e1, e2]
theorem lc27 (A : AL s h) (hL : hN h 1 = Ls) (hi : i + 8 ≤ Ls) (h4 : i + 8 ≤ 4096) (hF : 50000 ≤ F) : NX h i K (lb27 F K h (nI i)) := by
  obtain ⟨v, e1, e2⟩ := q_account A.e A.rw0.1 A.rw0.2.1 (F := F) (by omega) (hI (h) (1) (i + 1)) (hI (h) (1) (i + 2))
  refine ⟨h, ⟨s, A⟩, GR.rf h, ?_⟩
  unfold lb27
  simp only [hL, ixc1 h4, ixn1 h4, ixl1 hi, ixc2 h4, ixn2 h4, ixl2 hi, ixc3 h4, ixn3 h4, ixl3 hi, ixc4 h4, ixn4 h4, ixl4 hi, ixc5 h4, ixn5 h4, ixl5 hi, ixc6 h4, ixn6 h4, ixl6 hi, ixc7 h4, ixn7 h4, ixl7 hi, or_self, if_false, if_true, eq_self, ob, ix8, p306_j2120, lgc0, e1, e2]
theorem lc28 (A : AL s h) (hL : hN h 1 = Ls) (hi : i + 8 ≤ Ls) (h4 : i + 8 ≤ 4096) (hF : 50000 ≤ F) (kp : ∀ h, WF h → ∀ (a : Int32) (b : Int32) (c : Int32) (d : Int32) (e : Int32) r, p142 F h a b c d e = some r → SK h r.2) : NX h i K (lb28 F K h (nI i)) := by
  obtain ⟨v, h1, h2, e1, e2, X, G⟩ := al_feed A hF (hI (h) (1) (i + 1)) (hI (h) (1) (i + 2)) (hI (h) (1) (i + 3)) (hI (h) (1) (i + 4)) (hI (h) (1) (i + 5))
  have e2 : p241 F h1 (hI (h) (1) (i + 1)) (hI (h) (1) (i + 2)) (hI (h) (1) (i + 3)) (hI (h) (1) (i + 4)) (hI (h) (1) (i + 5)) = some (v, h2) := e2
  obtain ⟨k1, k2⟩ : hN h1 1 = hN h 1 ∧ hI h1 1 = hI h 1 := kp h A.e.w _ _ _ _ _ _ e1
  refine ⟨h2, X, G, ?_⟩
  unfold lb28
  simp only [hL, ixc1 h4, ixn1 h4, ixl1 hi, ixc2 h4, ixn2 h4, ixl2 hi, ixc3 h4, ixn3 h4, ixl3 hi, ixc4 h4, ixn4 h4, ixl4 hi, ixc5 h4, ixn5 h4, ixl5 hi, ixc6 h4, ixn6 h4, ixl6 hi, ixc7 h4, ixn7 h4, ixl7 hi, or_self, if_false, if_true, eq_self, ob, ix8, p306_j2120, lgc0, k1, k2, e1, e2]
theorem lc29 (A : AL s h) (hL : hN h 1 = Ls) (hi : i + 8 ≤ Ls) (h4 : i + 8 ≤ 4096) (hF : 50000 ≤ F) (kp : ∀ h, WF h → ∀ (a : Int32) r, p143 h a = some r → SK h r.2) : NX h i K (lb29 F K h (nI i)) := by
  obtain ⟨v, h1, h2, e1, e2, X, G⟩ := al_end A (hI (h) (1) (i + 1))
  have e2 : p243 h1 (hI (h) (1) (i + 1)) = some (v, h2) := e2
  obtain ⟨k1, k2⟩ : hN h1 1 = hN h 1 ∧ hI h1 1 = hI h 1 := kp h A.e.w _ _ e1
  refine ⟨h2, X, G, ?_⟩
  unfold lb29
  simp only [hL, ixc1 h4, ixn1 h4, ixl1 hi, ixc2 h4, ixn2 h4, ixl2 hi, ixc3 h4, ixn3 h4, ixl3 hi, ixc4 h4, ixn4 h4, ixl4 hi, ixc5 h4, ixn5 h4, ixl5 hi, ixc6 h4, ixn6 h4, ixl6 hi, ixc7 h4, ixn7 h4, ixl7 hi, or_self, if_false, if_true, eq_self, ob, ix8, p306_j2120, lgc0, k1, k2, e1, e2]
theorem lc30 (A : AL s h) (hL : hN h 1 = Ls) (hi : i + 8 ≤ Ls) (h4 : i + 8 ≤ 4096) (hF : 50000 ≤ F) (kp : ∀ h, WF h → ∀ (a : Int32) r, p144 F h a = some r → SK h r.2) : NX h i K (lb30 F K h (nI i)) := by
  obtain ⟨v, h1, h2, e1, e2, X, G⟩ := al_law A hF (hI (h) (1) (i + 1))
  have e2 : p267 F h1 (hI (h) (1) (i + 1)) = some (v, h2) := e2
  obtain ⟨k1, k2⟩ : hN h1 1 = hN h 1 ∧ hI h1 1 = hI h 1 := kp h A.e.w _ _ e1
  refine ⟨h2, X, G, ?_⟩
  unfold lb30
  simp only [hL, ixc1 h4, ixn1 h4, ixl1 hi, ixc2 h4, ixn2 h4, ixl2 hi, ixc3 h4, ixn3 h4, ixl3 hi, ixc4 h4, ixn4 h4, ixl4 hi, ixc5 h4, ixn5 h4, ixl5 hi, ixc6 h4, ixn6 h4, ixl6 hi, ixc7 h4, ixn7 h4, ixl7 hi, or_self, if_false, if_true, eq_self, ob, ix8, p306_j2120, lgc0, k1, k2, e1, e2]
theorem lc31 (A : AL s h) (hL : hN h 1 = Ls) (hi : i + 8 ≤ Ls) (h4 : i + 8 ≤ 4096) (hF : 50000 ≤ F) : NX h i K (lb31 F K h (nI i)) := by
  obtain ⟨v, e1, e2⟩ := q_force (F := F) A.e A.lw0 (by omega) (hI (h) (1) (i + 1))
  refine ⟨h, ⟨s, A⟩, GR.rf h, ?_⟩
  unfold lb31
  simp only [hL, ixc1 h4, ixn1 h4, ixl1 hi, ixc2 h4, ixn2 h4, ixl2 hi, ixc3 h4, ixn3 h4, ixl3 hi, ixc4 h4, ixn4 h4, ixl4 hi, ixc5 h4, ixn5 h4, ixl5 hi, ixc6 h4, ixn6 h4, ixl6 hi, ixc7 h4, ixn7 h4, ixl7 hi, or_self, if_false, if_true, eq_self, ob, ix8, p306_j2120, lgc0, e1, e2]
theorem lc32 (A : AL s h) (hL : hN h 1 = Ls) (hi : i + 8 ≤ Ls) (h4 : i + 8 ≤ 4096) (hF : 50000 ≤ F) (kp : ∀ h, WF h → ∀ (a : Int32) (b : Int64) (c : Int32) (d : Int32) r, p146 h a b c d = some r → SK h r.2) : NX h i K (lb32 F K h (nI i)) := by
  obtain ⟨v, h1, h2, e1, e2, X, G⟩ := al_line A (hI (h) (1) (i + 1)) ((((hI (h) (1) (i + 2)).toInt64) <<< ((32 : Int32).toInt64 &&& 63)) ||| (((hI (h) (1) (i + 3)).toInt64) &&& ((4294967295 : Int64)))) (hI (h) (1) (i + 4)) (hI (h) (1) (i + 5))
  have e2 : p275 h1 (hI (h) (1) (i + 1)) ((((hI (h) (1) (i + 2)).toInt64) <<< ((32 : Int32).toInt64 &&& 63)) ||| (((hI (h) (1) (i + 3)).toInt64) &&& ((4294967295 : Int64)))) (hI (h) (1) (i + 4)) (hI (h) (1) (i + 5)) = some (v, h2) := e2
  obtain ⟨k1, k2⟩ : hN h1 1 = hN h 1 ∧ hI h1 1 = hI h 1 := kp h A.e.w _ _ _ _ _ e1
  refine ⟨h2, X, G, ?_⟩
  unfold lb32
  simp only [hL, ixc1 h4, ixn1 h4, ixl1 hi, ixc2 h4, ixn2 h4, ixl2 hi, ixc3 h4, ixn3 h4, ixl3 hi, ixc4 h4, ixn4 h4, ixl4 hi, ixc5 h4, ixn5 h4, ixl5 hi, ixc6 h4, ixn6 h4, ixl6 hi, ixc7 h4, ixn7 h4, ixl7 hi, or_self, if_false, if_true, eq_self, ob, ix8, p306_j2120, lgc0, k1, k2, e1, e2]
theorem lc33 (A : AL s h) (hL : hN h 1 = Ls) (hi : i + 8 ≤ Ls) (h4 : i + 8 ≤ 4096) (hF : 50000 ≤ F) (kp : ∀ h, WF h → ∀ (a b : Int32) r, p147 h a b = some r → SK h r.2) : NX h i K (lb33 F K h (nI i)) := by
  unfold lb33
  by_cases hc : hI h 1 (i + 2) = 0
  · obtain ⟨v, h1, h2, e1, e2, X, G⟩ := al_reader A (hI h 1 (i + 1)) 0 (Or.inl rfl)
    have e2 : p276 h1 (hI h 1 (i + 1)) 0 = some (v, h2) := e2
    obtain ⟨k1, k2⟩ : hN h1 1 = hN h 1 ∧ hI h1 1 = hI h 1 := kp h A.e.w _ _ _ e1
    refine ⟨h2, X, G, ?_⟩
    simp only [hL, ixc1 h4, ixn1 h4, ixl1 hi, ixc2 h4, ixn2 h4, ixl2 hi, ixc3 h4, ixn3 h4, ixl3 hi, ixc4 h4, ixn4 h4, ixl4 hi, ixc5 h4, ixn5 h4, ixl5 hi, ixc6 h4, ixn6 h4, ixl6 hi, ixc7 h4, ixn7 h4, ixl7 hi, or_self, if_false, if_true, eq_self, ob, ix8, p306_j2120, lgc0, hc, p306_j1518, p306_j1540, k1, k2, e1, e2]
  · obtain ⟨v, h1, h2, e1, e2, X, G⟩ := al_reader A (hI h 1 (i + 1)) 1 (Or.inr rfl)
    have e2 : p276 h1 (hI h 1 (i + 1)) 1 = some (v, h2) := e2
    obtain ⟨k1, k2⟩ : hN h1 1 = hN h 1 ∧ hI h1 1 = hI h 1 := kp h A.e.w _ _ _ e1
    refine ⟨h2, X, G, ?_⟩
    simp only [hL, ixc1 h4, ixn1 h4, ixl1 hi, ixc2 h4, ixn2 h4, ixl2 hi, ixc3 h4, ixn3 h4, ixl3 hi, ixc4 h4, ixn4 h4, ixl4 hi, ixc5 h4, ixn5 h4, ixl5 hi, ixc6 h4, ixn6 h4, ixl6 hi, ixc7 h4, ixn7 h4, ixl7 hi, or_self, if_false, if_true, eq_self, ob, ix8, p306_j2120, lgc0, hc, p306_j1518, p306_j1540, k1, k2, e1, e2]
theorem lc34 (A : AL s h) (hL : hN h 1 = Ls) (hi : i + 8 ≤ Ls) (h4 : i + 8 ≤ 4096) (hF : 50000 ≤ F) (kp : ∀ h, WF h → ∀ (a : Int32) (b : Int32) (c : Int32) r, p148 F h a b c = some r → SK h r.2) : NX h i K (lb34 F K h (nI i)) := by
  obtain ⟨v, h1, h2, e1, e2, X, G⟩ := al_may A hF (hI (h) (1) (i + 1)) (hI (h) (1) (i + 2)) (hI (h) (1) (i + 3))
  have e2 : p283 F h1 (hI (h) (1) (i + 1)) (hI (h) (1) (i + 2)) (hI (h) (1) (i + 3)) = some (v, h2) := e2
  obtain ⟨k1, k2⟩ : hN h1 1 = hN h 1 ∧ hI h1 1 = hI h 1 := kp h A.e.w _ _ _ _ e1
  refine ⟨h2, X, G, ?_⟩
  unfold lb34
  simp only [hL, ixc1 h4, ixn1 h4, ixl1 hi, ixc2 h4, ixn2 h4, ixl2 hi, ixc3 h4, ixn3 h4, ixl3 hi, ixc4 h4, ixn4 h4, ixl4 hi, ixc5 h4, ixn5 h4, ixl5 hi, ixc6 h4, ixn6 h4, ixl6 hi, ixc7 h4, ixn7 h4, ixl7 hi, or_self, if_false, if_true, eq_self, ob, ix8, p306_j2120, lgc0, k1, k2, e1, e2]
theorem lc35 (A : AL s h) (hL : hN h 1 = Ls) (hi : i + 8 ≤ Ls) (h4 : i + 8 ≤ 4096) (hF : 50000 ≤ F) : NX h i K (lb35 F K h (nI i)) := by
  obtain ⟨v, e1, e2⟩ := q_why A.w30 
  refine ⟨h, ⟨s, A⟩, GR.rf h, ?_⟩
  unfold lb35
  simp only [hL, ixc1 h4, ixn1 h4, ixl1 hi, ixc2 h4, ixn2 h4, ixl2 hi, ixc3 h4, ixn3 h4, ixl3 hi, ixc4 h4, ixn4 h4, ixl4 hi, ixc5 h4, ixn5 h4, ixl5 hi, ixc6 h4, ixn6 h4, ixl6 hi, ixc7 h4, ixn7 h4, ixl7 hi, or_self, if_false, if_true, eq_self, ob, ix8, p306_j2120, lgc0, e1, e2]
theorem lc36 (A : AL s h) (hL : hN h 1 = Ls) (hi : i + 8 ≤ Ls) (h4 : i + 8 ≤ 4096) (hF : 50000 ≤ F) (kp : ∀ h, WF h → ∀ (a : Int32) (b : Int32) r, p150 h a b = some r → SK h r.2) : NX h i K (lb36 F K h (nI i)) := by
  obtain ⟨v, h1, h2, e1, e2, X, G⟩ := al_ask A (hI (h) (1) (i + 1)) (hI (h) (1) (i + 2))
  have e2 : p285 h1 (hI (h) (1) (i + 1)) (hI (h) (1) (i + 2)) = some (v, h2) := e2
  obtain ⟨k1, k2⟩ : hN h1 1 = hN h 1 ∧ hI h1 1 = hI h 1 := kp h A.e.w _ _ _ e1
  refine ⟨h2, X, G, ?_⟩
  unfold lb36
  simp only [hL, ixc1 h4, ixn1 h4, ixl1 hi, ixc2 h4, ixn2 h4, ixl2 hi, ixc3 h4, ixn3 h4, ixl3 hi, ixc4 h4, ixn4 h4, ixl4 hi, ixc5 h4, ixn5 h4, ixl5 hi, ixc6 h4, ixn6 h4, ixl6 hi, ixc7 h4, ixn7 h4, ixl7 hi, or_self, if_false, if_true, eq_self, ob, ix8, p306_j2120, lgc0, k1, k2, e1, e2]
theorem lc37 (A : AL s h) (hL : hN h 1 = Ls) (hi : i + 8 ≤ Ls) (h4 : i + 8 ≤ 4096) (hF : 50000 ≤ F) (kp : ∀ h, WF h → ∀ (a : Int32) r, p151 F h a = some r → SK h r.2) : NX h i K (lb37 F K h (nI i)) := by
  obtain ⟨v, h1, h2, e1, e2, X, G⟩ := al_turn A hF (hI (h) (1) (i + 1))
  have e2 : p287 F h1 (hI (h) (1) (i + 1)) = some (v, h2) := e2
  obtain ⟨k1, k2⟩ : hN h1 1 = hN h 1 ∧ hI h1 1 = hI h 1 := kp h A.e.w _ _ e1
  refine ⟨h2, X, G, ?_⟩
  unfold lb37
  simp only [hL, ixc1 h4, ixn1 h4, ixl1 hi, ixc2 h4, ixn2 h4, ixl2 hi, ixc3 h4, ixn3 h4, ixl3 hi, ixc4 h4, ixn4 h4, ixl4 hi, ixc5 h4, ixn5 h4, ixl5 hi, ixc6 h4, ixn6 h4, ixl6 hi, ixc7 h4, ixn7 h4, ixl7 hi, or_self, if_false, if_true, eq_self, ob, ix8, p306_j2120, lgc0, k1, k2, e1, e2]
theorem lc38 (A : AL s h) (hL : hN h 1 = Ls) (hi : i + 8 ≤ Ls) (h4 : i + 8 ≤ 4096) (hF : 50000 ≤ F) (kp : ∀ h, WF h → ∀  r, p152 F h  = some r → SK h r.2) : NX h i K (lb38 F K h (nI i)) := by
  obtain ⟨v, h1, h2, e1, e2, X, G⟩ := al_call A hF 
  have e2 : p288 F h1  = some (v, h2) := e2
  obtain ⟨k1, k2⟩ : hN h1 1 = hN h 1 ∧ hI h1 1 = hI h 1 := kp h A.e.w _ e1
  refine ⟨h2, X, G, ?_⟩
  unfold lb38
  simp only [hL, ixc1 h4, ixn1 h4, ixl1 hi, ixc2 h4, ixn2 h4, ixl2 hi, ixc3 h4, ixn3 h4, ixl3 hi, ixc4 h4, ixn4 h4, ixl4 hi, ixc5 h4, ixn5 h4, ixl5 hi, ixc6 h4, ixn6 h4, ixl6 hi, ixc7 h4, ixn7 h4, ixl7 hi, or_self, if_false, if_true, eq_self, ob, ix8, p306_j2120, lgc0, k1, k2, e1, e2]
theorem lc39 (A : AL s h) (hL : hN h 1 = Ls) (hi : i + 8 ≤ Ls) (h4 : i + 8 ≤ 4096) (hF : 50000 ≤ F) : NX h i K (lb39 F K h (nI i)) := by
  obtain ⟨v, e1, e2⟩ := q_told A.e A.ln0 (hI (h) (1) (i + 1)) (hI (h) (1) (i + 2)) (hI (h) (1) (i + 3))
  refine ⟨h, ⟨s, A⟩, GR.rf h, ?_⟩
  unfold lb39
  simp only [hL, ixc1 h4, ixn1 h4, ixl1 hi, ixc2 h4, ixn2 h4, ixl2 hi, ixc3 h4, ixn3 h4, ixl3 hi, ixc4 h4, ixn4 h4, ixl4 hi, ixc5 h4, ixn5 h4, ixl5 hi, ixc6 h4, ixn6 h4, ixl6 hi, ixc7 h4, ixn7 h4, ixl7 hi, or_self, if_false, if_true, eq_self, ob, ix8, p306_j2120, lgc0, e1, e2]
theorem lc40 (A : AL s h) (hL : hN h 1 = Ls) (hi : i + 8 ≤ Ls) (h4 : i + 8 ≤ 4096) (hF : 50000 ≤ F) : NX h i K (lb40 F K h (nI i)) := by
  obtain ⟨v, g, e1, e2, X, G⟩ := al_together A hF (hI (h) (1) (i + 1)) (hI (h) (1) (i + 2)) (hI (h) (1) (i + 3))
  refine ⟨g, X, G, ?_⟩
  unfold lb40
  simp only [hL, ixc1 h4, ixn1 h4, ixl1 hi, ixc2 h4, ixn2 h4, ixl2 hi, ixc3 h4, ixn3 h4, ixl3 hi, ixc4 h4, ixn4 h4, ixl4 hi, ixc5 h4, ixn5 h4, ixl5 hi, ixc6 h4, ixn6 h4, ixl6 hi, ixc7 h4, ixn7 h4, ixl7 hi, or_self, if_false, if_true, eq_self, ob, ix8, p306_j2120, lgc0, e1, e2]
theorem lc41 (A : AL s h) (hL : hN h 1 = Ls) (hi : i + 8 ≤ Ls) (h4 : i + 8 ≤ 4096) (hF : 50000 ≤ F) (kp : ∀ h, WF h → ∀ (a : Int32) (b : Int32) r, p155 h a b = some r → SK h r.2) : NX h i K (lb41 F K h (nI i)) := by
  obtain ⟨v, h1, h2, e1, e2, X, G⟩ := al_finding A (hI (h) (1) (i + 1)) (hI (h) (1) (i + 2))
  have e2 : p292 h1 (hI (h) (1) (i + 1)) (hI (h) (1) (i + 2)) = some (v, h2) := e2
  obtain ⟨k1, k2⟩ : hN h1 1 = hN h 1 ∧ hI h1 1 = hI h 1 := kp h A.e.w _ _ _ e1
  refine ⟨h2, X, G, ?_⟩
  unfold lb41
  simp only [hL, ixc1 h4, ixn1 h4, ixl1 hi, ixc2 h4, ixn2 h4, ixl2 hi, ixc3 h4, ixn3 h4, ixl3 hi, ixc4 h4, ixn4 h4, ixl4 hi, ixc5 h4, ixn5 h4, ixl5 hi, ixc6 h4, ixn6 h4, ixl6 hi, ixc7 h4, ixn7 h4, ixl7 hi, or_self, if_false, if_true, eq_self, ob, ix8, p306_j2120, lgc0, k1, k2, e1, e2]
theorem lc42 (A : AL s h) (hL : hN h 1 = Ls) (hi : i + 8 ≤ Ls) (h4 : i + 8 ≤ 4096) (hF : 50000 ≤ F) (kp : ∀ h, WF h → ∀ (a : Int32) (b : Int32) r, p156 F h a b = some r → SK h r.2) : NX h i K (lb42 F K h (nI i)) := by
  obtain ⟨v, h1, h2, e1, e2, X, G⟩ := al_stands A hF (hI (h) (1) (i + 1)) (hI (h) (1) (i + 2))
  have e2 : p296 F h1 (hI (h) (1) (i + 1)) (hI (h) (1) (i + 2)) = some (v, h2) := e2
  obtain ⟨k1, k2⟩ : hN h1 1 = hN h 1 ∧ hI h1 1 = hI h 1 := kp h A.e.w _ _ _ e1
  refine ⟨h2, X, G, ?_⟩
  unfold lb42
  simp only [hL, ixc1 h4, ixn1 h4, ixl1 hi, ixc2 h4, ixn2 h4, ixl2 hi, ixc3 h4, ixn3 h4, ixl3 hi, ixc4 h4, ixn4 h4, ixl4 hi, ixc5 h4, ixn5 h4, ixl5 hi, ixc6 h4, ixn6 h4, ixl6 hi, ixc7 h4, ixn7 h4, ixl7 hi, or_self, if_false, if_true, eq_self, ob, ix8, p306_j2120, lgc0, k1, k2, e1, e2]
theorem lc43 (A : AL s h) (hL : hN h 1 = Ls) (hi : i + 8 ≤ Ls) (h4 : i + 8 ≤ 4096) (hF : 50000 ≤ F) (kp : ∀ h, WF h → ∀ (a : Int32) (b : Int32) r, p157 F h a b = some r → SK h r.2) : NX h i K (lb43 F K h (nI i)) := by
  obtain ⟨v, h1, h2, e1, e2, X, G⟩ := al_need A hF (hI (h) (1) (i + 1)) (hI (h) (1) (i + 2))
  have e2 : p294 F h1 (hI (h) (1) (i + 1)) (hI (h) (1) (i + 2)) = some (v, h2) := e2
  obtain ⟨k1, k2⟩ : hN h1 1 = hN h 1 ∧ hI h1 1 = hI h 1 := kp h A.e.w _ _ _ e1
  refine ⟨h2, X, G, ?_⟩
  unfold lb43
  simp only [hL, ixc1 h4, ixn1 h4, ixl1 hi, ixc2 h4, ixn2 h4, ixl2 hi, ixc3 h4, ixn3 h4, ixl3 hi, ixc4 h4, ixn4 h4, ixl4 hi, ixc5 h4, ixn5 h4, ixl5 hi, ixc6 h4, ixn6 h4, ixl6 hi, ixc7 h4, ixn7 h4, ixl7 hi, or_self, if_false, if_true, eq_self, ob, ix8, p306_j2120, lgc0, k1, k2, e1, e2]
theorem lc44 (A : AL s h) (hL : hN h 1 = Ls) (hi : i + 8 ≤ Ls) (h4 : i + 8 ≤ 4096) (hF : 50000 ≤ F) (kp : ∀ h, WF h → ∀ (a b : Int32) r, p158 h a b = some r → SK h r.2) : NX h i K (lb44 F K h (nI i)) := by
  unfold lb44
  by_cases hc : hI h 1 (i + 2) = 0
  · obtain ⟨v, h1, h2, e1, e2, X, G⟩ := al_appeal A (hI h 1 (i + 1)) 0
    have e2 : p297 h1 (hI h 1 (i + 1)) 0 = some (v, h2) := e2
    obtain ⟨k1, k2⟩ : hN h1 1 = hN h 1 ∧ hI h1 1 = hI h 1 := kp h A.e.w _ _ _ e1
    refine ⟨h2, X, G, ?_⟩
    simp only [hL, ixc1 h4, ixn1 h4, ixl1 hi, ixc2 h4, ixn2 h4, ixl2 hi, ixc3 h4, ixn3 h4, ixl3 hi, ixc4 h4, ixn4 h4, ixl4 hi, ixc5 h4, ixn5 h4, ixl5 hi, ixc6 h4, ixn6 h4, ixl6 hi, ixc7 h4, ixn7 h4, ixl7 hi, or_self, if_false, if_true, eq_self, ob, ix8, p306_j2120, lgc0, hc, p306_j1878, p306_j1900, k1, k2, e1, e2]
  · obtain ⟨v, h1, h2, e1, e2, X, G⟩ := al_appeal A (hI h 1 (i + 1)) 1
    have e2 : p297 h1 (hI h 1 (i + 1)) 1 = some (v, h2) := e2
    obtain ⟨k1, k2⟩ : hN h1 1 = hN h 1 ∧ hI h1 1 = hI h 1 := kp h A.e.w _ _ _ e1
    refine ⟨h2, X, G, ?_⟩
    simp only [hL, ixc1 h4, ixn1 h4, ixl1 hi, ixc2 h4, ixn2 h4, ixl2 hi, ixc3 h4, ixn3 h4, ixl3 hi, ixc4 h4, ixn4 h4, ixl4 hi, ixc5 h4, ixn5 h4, ixl5 hi, ixc6 h4, ixn6 h4, ixl6 hi, ixc7 h4, ixn7 h4, ixl7 hi, or_self, if_false, if_true, eq_self, ob, ix8, p306_j2120, lgc0, hc, p306_j1878, p306_j1900, k1, k2, e1, e2]
theorem lc45 (A : AL s h) (hL : hN h 1 = Ls) (hi : i + 8 ≤ Ls) (h4 : i + 8 ≤ 4096) (hF : 50000 ≤ F) (kp : ∀ h, WF h → ∀ (a : Int32) r, p159 F h a = some r → SK h r.2) : NX h i K (lb45 F K h (nI i)) := by
  obtain ⟨v, h1, h2, e1, e2, X, G⟩ := al_lose A hF (hI (h) (1) (i + 1))
  have e2 : p298 F h1 (hI (h) (1) (i + 1)) = some (v, h2) := e2
  obtain ⟨k1, k2⟩ : hN h1 1 = hN h 1 ∧ hI h1 1 = hI h 1 := kp h A.e.w _ _ e1
  refine ⟨h2, X, G, ?_⟩
  unfold lb45
  simp only [hL, ixc1 h4, ixn1 h4, ixl1 hi, ixc2 h4, ixn2 h4, ixl2 hi, ixc3 h4, ixn3 h4, ixl3 hi, ixc4 h4, ixn4 h4, ixl4 hi, ixc5 h4, ixn5 h4, ixl5 hi, ixc6 h4, ixn6 h4, ixl6 hi, ixc7 h4, ixn7 h4, ixl7 hi, or_self, if_false, if_true, eq_self, ob, ix8, p306_j2120, lgc0, k1, k2, e1, e2]
theorem lc46 (A : AL s h) (hL : hN h 1 = Ls) (hi : i + 8 ≤ Ls) (h4 : i + 8 ≤ 4096) (hF : 50000 ≤ F) (kp : ∀ h, WF h → ∀  r, p160 F h  = some r → SK h r.2) : NX h i K (lb46 F K h (nI i)) := by
  obtain ⟨v, h1, h2, e1, e2, X, G⟩ := al_back A hF 
  have e2 : p299 F h1  = some (v, h2) := e2
  obtain ⟨k1, k2⟩ : hN h1 1 = hN h 1 ∧ hI h1 1 = hI h 1 := kp h A.e.w _ e1
  refine ⟨h2, X, G, ?_⟩
  unfold lb46
  simp only [hL, ixc1 h4, ixn1 h4, ixl1 hi, ixc2 h4, ixn2 h4, ixl2 hi, ixc3 h4, ixn3 h4, ixl3 hi, ixc4 h4, ixn4 h4, ixl4 hi, ixc5 h4, ixn5 h4, ixl5 hi, ixc6 h4, ixn6 h4, ixl6 hi, ixc7 h4, ixn7 h4, ixl7 hi, or_self, if_false, if_true, eq_self, ob, ix8, p306_j2120, lgc0, k1, k2, e1, e2]
theorem lc47 (A : AL s h) (hL : hN h 1 = Ls) (hi : i + 8 ≤ Ls) (h4 : i + 8 ≤ 4096) (hF : 50000 ≤ F) : NX h i K (lb47 F K h (nI i)) := by
  obtain ⟨v, e1, e2⟩ := q_persons A.e A.rw0.2.2.1 A.rw0.2.2.2.1 A.rw0.2.2.2.2.1 (hI (h) (1) (i + 1)) (hI (h) (1) (i + 2))
  refine ⟨h, ⟨s, A⟩, GR.rf h, ?_⟩
  unfold lb47
  simp only [hL, ixc1 h4, ixn1 h4, ixl1 hi, ixc2 h4, ixn2 h4, ixl2 hi, ixc3 h4, ixn3 h4, ixl3 hi, ixc4 h4, ixn4 h4, ixl4 hi, ixc5 h4, ixn5 h4, ixl5 hi, ixc6 h4, ixn6 h4, ixl6 hi, ixc7 h4, ixn7 h4, ixl7 hi, or_self, if_false, if_true, eq_self, ob, ix8, p306_j2120, lgc0, e1, e2]
theorem lc48 (A : AL s h) (hL : hN h 1 = Ls) (hi : i + 8 ≤ Ls) (h4 : i + 8 ≤ 4096) (hF : 50000 ≤ F) (kp : ∀ h, WF h → ∀ (a : Int32) (b : Int32) r, p162 h a b = some r → SK h r.2) : NX h i K (lb48 F K h (nI i)) := by
  obtain ⟨v, h1, h2, e1, e2, X, G⟩ := al_asker A (hI (h) (1) (i + 1)) (hI (h) (1) (i + 2))
  have e2 : p301 h1 (hI (h) (1) (i + 1)) (hI (h) (1) (i + 2)) = some (v, h2) := e2
  obtain ⟨k1, k2⟩ : hN h1 1 = hN h 1 ∧ hI h1 1 = hI h 1 := kp h A.e.w _ _ _ e1
  refine ⟨h2, X, G, ?_⟩
  unfold lb48
  simp only [hL, ixc1 h4, ixn1 h4, ixl1 hi, ixc2 h4, ixn2 h4, ixl2 hi, ixc3 h4, ixn3 h4, ixl3 hi, ixc4 h4, ixn4 h4, ixl4 hi, ixc5 h4, ixn5 h4, ixl5 hi, ixc6 h4, ixn6 h4, ixl6 hi, ixc7 h4, ixn7 h4, ixl7 hi, or_self, if_false, if_true, eq_self, ob, ix8, p306_j2120, lgc0, k1, k2, e1, e2]
theorem lc49 (A : AL s h) (hL : hN h 1 = Ls) (hi : i + 8 ≤ Ls) (h4 : i + 8 ≤ 4096) (hF : 50000 ≤ F) (kp : ∀ h, WF h → ∀ (a : Int32) (b : Int64) r, p163 F h a b = some r → SK h r.2) : NX h i K (lb49 F K h (nI i)) := by
  obtain ⟨v, h1, h2, e1, e2, X, G⟩ := al_order A hF (hI (h) (1) (i + 1)) ((((hI (h) (1) (i + 2)).toInt64) <<< ((32 : Int32).toInt64 &&& 63)) ||| (((hI (h) (1) (i + 3)).toInt64) &&& ((4294967295 : Int64))))
  have e2 : p303 F h1 (hI (h) (1) (i + 1)) ((((hI (h) (1) (i + 2)).toInt64) <<< ((32 : Int32).toInt64 &&& 63)) ||| (((hI (h) (1) (i + 3)).toInt64) &&& ((4294967295 : Int64)))) = some (v, h2) := e2
  obtain ⟨k1, k2⟩ : hN h1 1 = hN h 1 ∧ hI h1 1 = hI h 1 := kp h A.e.w _ _ _ e1
  refine ⟨h2, X, G, ?_⟩
  unfold lb49
  simp only [hL, ixc1 h4, ixn1 h4, ixl1 hi, ixc2 h4, ixn2 h4, ixl2 hi, ixc3 h4, ixn3 h4, ixl3 hi, ixc4 h4, ixn4 h4, ixl4 hi, ixc5 h4, ixn5 h4, ixl5 hi, ixc6 h4, ixn6 h4, ixl6 hi, ixc7 h4, ixn7 h4, ixl7 hi, or_self, if_false, if_true, eq_self, ob, ix8, p306_j2120, lgc0, k1, k2, e1, e2]
theorem lc50 (A : AL s h) (hL : hN h 1 = Ls) (hi : i + 8 ≤ Ls) (h4 : i + 8 ≤ 4096) (hF : 50000 ≤ F) : NX h i K (lb50 F K h (nI i)) := by
  obtain ⟨v, e1, e2⟩ := q_ordered A.or0 (hI (h) (1) (i + 1))
  refine ⟨h, ⟨s, A⟩, GR.rf h, ?_⟩
  unfold lb50
  simp only [hL, ixc1 h4, ixn1 h4, ixl1 hi, ixc2 h4, ixn2 h4, ixl2 hi, ixc3 h4, ixn3 h4, ixl3 hi, ixc4 h4, ixn4 h4, ixl4 hi, ixc5 h4, ixn5 h4, ixl5 hi, ixc6 h4, ixn6 h4, ixl6 hi, ixc7 h4, ixn7 h4, ixl7 hi, or_self, if_false, if_true, eq_self, ob, ix8, p306_j2120, lgc0, e1, e2]
theorem lc51 (A : AL s h) (hL : hN h 1 = Ls) (hi : i + 8 ≤ Ls) (h4 : i + 8 ≤ 4096) (hF : 50000 ≤ F) : NX h i K (lb51 F K h (nI i)) := by
  obtain ⟨v, e1, e2⟩ := q_count (F := F) A.e A.sc0 A.rd0 (by omega) (hI (h) (1) (i + 1))
  refine ⟨h, ⟨s, A⟩, GR.rf h, ?_⟩
  unfold lb51
  simp only [hL, ixc1 h4, ixn1 h4, ixl1 hi, ixc2 h4, ixn2 h4, ixl2 hi, ixc3 h4, ixn3 h4, ixl3 hi, ixc4 h4, ixn4 h4, ixl4 hi, ixc5 h4, ixn5 h4, ixl5 hi, ixc6 h4, ixn6 h4, ixl6 hi, ixc7 h4, ixn7 h4, ixl7 hi, or_self, if_false, if_true, eq_self, ob, ix8, p306_j2120, lgc0, e1, e2]
end LC
