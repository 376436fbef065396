/-! law: both sides -/
def lwP (s : SS) (h : HS) (l : Nat) : Prop := lwA s h l ∧ lwB s h l ∧ (∀ c, c < s 45 l → clOK s h l c) ∧ ∀ k, k < s 46 l → lwC s h l k
section LWB1
variable {s s' : SS} {h g : HS} {F l : Nat}
theorem lwP.st (P : lwP s h l) (e34 : s' 34 l = s 34 l) (e45 : s' 45 l = s 45 l) (e46 : s' 46 l = s 46 l) (e47 : s' 47 l = s 47 l) (e0 : s' (1000 + l) = s (1000 + l)) (e1 : s' (1100 + l) = s (1100 + l)) (e2 : s' (1200 + l) = s (1200 + l)) (e3 : s' (1300 + l) = s (1300 + l)) : lwP s' h l := by
  obtain ⟨A, B, C, T⟩ := P
  have eb : ∀ c, beg s' l c = beg s l c := fun c => by unfold beg; rw [e1]
  refine ⟨?_, ?_, fun c hc => ?_, fun k hk => ?_⟩
  · unfold lwA at A ⊢
    rw [e34, e47, e0, e46, e45]
    exact A
  · unfold lwB at B ⊢
    rw [e34, e45, e46]
    exact B
  · rw [e45] at hc
    have := C c hc
    unfold clOK at this ⊢
    rw [e34, e46, e0, e1, e2, e3, eb]
    exact this
  · rw [e46] at hk
    have := T k hk
    unfold lwC at this ⊢
    rw [e34, e0]
    exact this
theorem lwP.gn (P : lwP s h l) (w : 160 ≤ h.1) {W : List Nat} {K : List (Nat × Nat)} (f : FR W K nD h g) (ok : wl W K) (k66 : hR g 66 l = hR h 66 l) (k7 : hI g 127 l = hI h 127 l ∧ hI g 128 l = hI h 128 l) (k9 : ∀ c, c < 12 → hI g 129 (12 * l + c) = hI h 129 (12 * l + c) ∧ hI g 130 (12 * l + c) = hI h 130 (12 * l + c) ∧ hI g 131 (12 * l + c) = hI h 131 (12 * l + c) ∧ hI g 132 (12 * l + c) = hI h 132 (12 * l + c)) (k3 : ∀ k, k < 400 → hI g 133 (400 * l + k) = hI h 133 (400 * l + k) ∧ hI g 134 (400 * l + k) = hI h 134 (400 * l + k)) : lwP s g l := by
  obtain ⟨A, B, C, T⟩ := P
  have lo := A.2.2.1.1
  have up := A.2.2.1.2
  have c12 : s 45 l ≤ 12 := A.2.2.2.2.2.2.2.2.1
  have c400 : s 46 l ≤ 400 := A.2.2.2.2.2.2.2.2.2
  have oI : ∀ d, d < 6 → ∀ j, hI g (s 34 l + d) j = hI h (s 34 l + d) j := fun d hd j => f.oI ok.1 ok.2 (by omega) (by omega) (fun z => z) j
  have oR : ∀ j, hR g (s 34 l) j = hR h (s 34 l) j := fun j => f.oR ok.1 (by omega) (by omega) (fun z => z) j
  have o0 : ∀ j, hI g (s 34 l) j = hI h (s 34 l) j := fun j => oI 0 (by decide) j
  have fT : ∀ d, d < 6 → hT g (s 34 l + d) = hT h (s 34 l + d) ∧ hN g (s 34 l + d) = hN h (s 34 l + d) := fun d hd => ⟨f.T (by omega), f.N (by omega)⟩
  refine ⟨?_, ?_, fun c hc => ?_, fun j hj => ?_⟩
  · unfold lwA at A ⊢
    rw [k66, show hT g (s 34 l) = hT h (s 34 l) from (fT 0 (by decide)).1, o0, o0, k7.1, k7.2]
    exact ⟨A.1, A.2.1, ⟨lo, Nat.le_trans up f.1⟩, A.2.2.2⟩
  · unfold lwB at B ⊢
    rw [oR, oR, oR, oR, oR, (fT 1 (by decide)).1, (fT 1 (by decide)).2, (fT 2 (by decide)).1, (fT 2 (by decide)).2, (fT 3 (by decide)).1, (fT 3 (by decide)).2, (fT 4 (by decide)).1, (fT 4 (by decide)).2, (fT 5 (by decide)).1, (fT 5 (by decide)).2]
    exact B
  · have := C c hc
    obtain ⟨q1, q2, q3, q4⟩ := k9 c (by omega)
    unfold clOK at this ⊢
    rw [oI 2 (by decide), oI 3 (by decide), oI 4 (by decide), q1, q2, q3, q4]
    exact this
  · have := T j hj
    obtain ⟨q1, q2⟩ := k3 j (by omega)
    unfold lwC at this ⊢
    rw [oI 5 (by decide), q1, q2]
    exact this
def st_law (s : SS) (o d : Nat) (L : List CLE) (C : List Nat) : SS := fun r k => if r = 0 then (if k = 9 then s 0 9 + 1 else if k = 12 then 0 else s 0 k) else if r = 34 then (if k = s 0 9 then o else s 34 k) else if r = 45 then (if k = s 0 9 then L.length else s 45 k) else if r = 46 then (if k = s 0 9 then C.length else s 46 k) else if r = 47 then (if k = s 0 9 then d else s 47 k) else if r = 1000 + s 0 9 then C.getD k 0 else if r = 1100 + s 0 9 then (L.getD k (0, 0, 0)).2.2 else if r = 1200 + s 0 9 then (L.getD k (0, 0, 0)).1 else if r = 1300 + s 0 9 then (L.getD k (0, 0, 0)).2.1 else s r k
section STL
variable {o d : Nat} {L : List CLE} {C : List Nat}
theorem stl_09 : st_law s o d L C 0 9 = s 0 9 + 1 := by unfold st_law; rw [if_pos rfl, if_pos rfl]
theorem stl_0c : st_law s o d L C 0 12 = 0 := by unfold st_law; rw [if_pos rfl, if_neg (by decide), if_pos rfl]
theorem stl_0 {k : Nat} (h9 : ¬ k = 9) (hc : ¬ k = 12) : st_law s o d L C 0 k = s 0 k := by unfold st_law; rw [if_pos rfl, if_neg h9, if_neg hc]
theorem stl_34 (k : Nat) : st_law s o d L C 34 k = if k = s 0 9 then o else s 34 k := by unfold st_law; rw [if_neg (by decide), if_pos rfl]
theorem stl_45 (k : Nat) : st_law s o d L C 45 k = if k = s 0 9 then L.length else s 45 k := by unfold st_law; rw [if_neg (by decide), if_neg (by decide), if_pos rfl]
theorem stl_46 (k : Nat) : st_law s o d L C 46 k = if k = s 0 9 then C.length else s 46 k := by unfold st_law; rw [if_neg (by decide), if_neg (by decide), if_neg (by decide), if_pos rfl]
theorem stl_47 (k : Nat) : st_law s o d L C 47 k = if k = s 0 9 then d else s 47 k := by unfold st_law; rw [if_neg (by decide), if_neg (by decide), if_neg (by decide), if_neg (by decide), if_pos rfl]
theorem stl_r {r : Nat} (h0 : ¬ r = 0 ∧ ¬ r = 34 ∧ ¬ r = 45 ∧ ¬ r = 46 ∧ ¬ r = 47) (h1 : ¬ r = 1000 + s 0 9 ∧ ¬ r = 1100 + s 0 9 ∧ ¬ r = 1200 + s 0 9 ∧ ¬ r = 1300 + s 0 9) : st_law s o d L C r = s r := by
  funext k
  unfold st_law
  rw [if_neg h0.1, if_neg h0.2.1, if_neg h0.2.2.1, if_neg h0.2.2.2.1, if_neg h0.2.2.2.2, if_neg h1.1, if_neg h1.2.1, if_neg h1.2.2.1, if_neg h1.2.2.2]
theorem stl_n0 (k : Nat) : st_law s o d L C (1000 + s 0 9) k = C.getD k 0 := by unfold st_law; rw [if_neg (by omega), if_neg (by omega), if_neg (by omega), if_neg (by omega), if_neg (by omega), if_pos rfl]
theorem stl_n1 (k : Nat) : st_law s o d L C (1100 + s 0 9) k = (L.getD k (0, 0, 0)).2.2 := by unfold st_law; rw [if_neg (by omega), if_neg (by omega), if_neg (by omega), if_neg (by omega), if_neg (by omega), if_neg (by omega), if_pos rfl]
theorem stl_n2 (k : Nat) : st_law s o d L C (1200 + s 0 9) k = (L.getD k (0, 0, 0)).1 := by unfold st_law; rw [if_neg (by omega), if_neg (by omega), if_neg (by omega), if_neg (by omega), if_neg (by omega), if_neg (by omega), if_neg (by omega), if_pos rfl]
theorem stl_n3 (k : Nat) : st_law s o d L C (1300 + s 0 9) k = (L.getD k (0, 0, 0)).2.1 := by unfold st_law; rw [if_neg (by omega), if_neg (by omega), if_neg (by omega), if_neg (by omega), if_neg (by omega), if_neg (by omega), if_neg (by omega), if_neg (by omega), if_pos rfl]
end STL
theorem lwP.nw {o d : Nat} {L : List CLE} {C : List Nat} (X : TXI L C) (hC : C.length ≤ 400) (hd : d ≤ 3999) (lo : 160 ≤ o ∧ o + 6 ≤ g.1) (k66 : hR g 66 (s 0 9) = some o) (N : NLO g o d L C) (k127 : hI g 127 (s 0 9) = nI d) (M : TMr g (s 0 9) L) (T : TMc g (s 0 9) C) : lwP (st_law s o d L C) g (s 0 9) := by
  obtain ⟨⟨n1, n2, n3⟩, n4, n5, n6, n7⟩ := N
  obtain ⟨m1, m2⟩ := M
  have e34 : st_law s o d L C 34 (s 0 9) = o := (stl_34 _).trans (if_pos rfl)
  have e45 : st_law s o d L C 45 (s 0 9) = L.length := (stl_45 _).trans (if_pos rfl)
  have e46 : st_law s o d L C 46 (s 0 9) = C.length := (stl_46 _).trans (if_pos rfl)
  have e47 : st_law s o d L C 47 (s 0 9) = d := (stl_47 _).trans (if_pos rfl)
  have eb : ∀ c, beg (st_law s o d L C) (s 0 9) c = lbg L c := fun c => by unfold beg lbg; rw [stl_n1]
  have f0 : st_law s o d L C (1000 + s 0 9) = fun k => C.getD k 0 := funext stl_n0
  refine ⟨?_, ?_, fun c hc => ?_, fun k hk => ?_⟩
  · unfold lwA
    rw [e34, e47, e46, e45, f0]
    exact ⟨k66, n1, lo, n2, k127, hd, n3, m1, X.1, hC⟩
  · unfold lwB
    rw [e34, e45, e46]
    exact ⟨n4.1, n4.2.1, n4.2.2.1, n4.2.2.2.1, n4.2.2.2.2, n5⟩
  · rw [e45] at hc
    obtain ⟨x1, x2, x3, x4, x5, x6, x7⟩ := X.2.2.1 c hc
    obtain ⟨y1, y2, y3⟩ := n6 c hc
    obtain ⟨z1, z2, z3, z4⟩ := m2 c hc
    unfold clOK
    rw [e34, e46, eb, stl_n1, stl_n2, stl_n3, f0]
    exact ⟨by omega, y1, z1, fun k => ⟨y2, z2 k, x2, x3⟩, y3, z4, z3, x4, x5, x6, x7⟩
  · rw [e46] at hk
    unfold lwC
    rw [e34, stl_n0]
    exact ⟨n7 k hk, X.2.1 _ (by rw [gd_l hk]; exact List.getElem_mem hk), (T k hk).1, (T k hk).2⟩
end LWB1
