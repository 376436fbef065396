/-! a new law's object, made -/
section NLM
variable {g : HS} {F : Nat} {a0 : Int32}
theorem p24F (w : 160 ≤ g.1) {cc n : Nat} {v : Int32} {h1 h2 h3 h4 h5 : HS} (y3 : hI h1 g.1 0 = a0) (y5 : hR h1 g.1 6 = some (g.1 + 1)) (y6 : hT h1 (g.1 + 1) = 23 ∧ hN h1 (g.1 + 1) = 80) (S5 : NS g h5 (g.1 + 6) (g.2.1 + 87 + cc + cc + cc + n)) (A2 : NA h2 g.1 (g.1 + 2) cc 3 (cpy (hI g 62) cc)) (K2 : NK h1 h2 g.1 (g.1 + 2) 3) (A3 : NA h3 g.1 (g.1 + 3) cc 2 (cpy (hI g 63) cc)) (K3 : NK h2 h3 g.1 (g.1 + 3) 2) (A4 : NA h4 g.1 (g.1 + 4) cc 4 (cpy (hI g 64) cc)) (K4 : NK h3 h4 g.1 (g.1 + 4) 4) (A5 : NA h5 g.1 (g.1 + 5) n 5 (cpy (hI g 65) n)) (K5 : NK h4 h5 g.1 (g.1 + 5) 5) : NLW g (hsI h5 g.1 1 v) a0 cc n v := by
  obtain ⟨fh5, q5, sz5, -, th5⟩ := S5
  obtain ⟨⟨a1, a2, a3⟩, a4⟩ := A2
  obtain ⟨⟨b1, b2', b3⟩, b4⟩ := A3
  obtain ⟨⟨c1, c2, c3⟩, c4⟩ := A4
  obtain ⟨⟨d1, d2, d3⟩, d4⟩ := A5
  obtain ⟨k2, r2⟩ := K2
  obtain ⟨k3, r3⟩ := K3
  obtain ⟨k4, r4⟩ := K4
  obtain ⟨k5, r5⟩ := K5
  have T : ∀ x, hT (hsI h5 g.1 1 v) x = hT h5 x := fun x => Eq.trans rfl rfl
  have Nn : ∀ x, hN (hsI h5 g.1 1 v) x = hN h5 x := fun x => Eq.trans rfl rfl
  have Rr : ∀ x j, hR (hsI h5 g.1 1 v) x j = hR h5 x j := fun x j => Eq.trans rfl rfl
  refine ⟨fh5.sI (Or.inr (Or.inr (Or.inr (Nat.le_refl _)))), q5, sz5, ⟨(T _).trans th5, ?_, hsI_s _ _ _ _⟩, ⟨?_, ?_, ?_, ?_, (Rr _ _).trans d4⟩, ⟨?_, ?_, ?_, ?_, (T _).trans d2, (Nn _).trans d3⟩, ?_, ?_, ?_, ?_⟩
  · rw [hsI_k (by decide), (k5 g.1 (by omega)).1, (k4 g.1 (by omega)).1, (k3 g.1 (by omega)).1, (k2 g.1 (by omega)).1]; exact y3
  · rw [Rr, r5 g.1 6 (by omega) (by decide), r4 g.1 6 (by omega) (by decide), r3 g.1 6 (by omega) (by decide), r2 g.1 6 (by omega) (by decide)]; exact y5
  · rw [Rr, r5 g.1 3 (by omega) (by decide), r4 g.1 3 (by omega) (by decide), r3 g.1 3 (by omega) (by decide)]; exact a4
  · rw [Rr, r5 g.1 2 (by omega) (by decide), r4 g.1 2 (by omega) (by decide)]; exact b4
  · rw [Rr, r5 g.1 4 (by omega) (by decide)]; exact c4
  · rw [T, Nn, (k5 (g.1 + 1) (by omega)).2.1, (k4 (g.1 + 1) (by omega)).2.1, (k3 (g.1 + 1) (by omega)).2.1, (k2 (g.1 + 1) (by omega)).2.1, (k5 (g.1 + 1) (by omega)).2.2, (k4 (g.1 + 1) (by omega)).2.2, (k3 (g.1 + 1) (by omega)).2.2, (k2 (g.1 + 1) (by omega)).2.2]; exact y6
  · rw [T, Nn, (k5 (g.1 + 2) (by omega)).2.1, (k4 (g.1 + 2) (by omega)).2.1, (k3 (g.1 + 2) (by omega)).2.1, (k5 (g.1 + 2) (by omega)).2.2, (k4 (g.1 + 2) (by omega)).2.2, (k3 (g.1 + 2) (by omega)).2.2]; exact ⟨a2, a3⟩
  · rw [T, Nn, (k5 (g.1 + 3) (by omega)).2.1, (k4 (g.1 + 3) (by omega)).2.1, (k5 (g.1 + 3) (by omega)).2.2, (k4 (g.1 + 3) (by omega)).2.2]; exact ⟨b2', b3⟩
  · rw [T, Nn, (k5 (g.1 + 4) (by omega)).2.1, (k5 (g.1 + 4) (by omega)).2.2]; exact ⟨c2, c3⟩
  · rw [hsI_n (by omega), (k5 _ (by omega)).1, (k4 _ (by omega)).1, (k3 _ (by omega)).1]; exact a1
  · rw [hsI_n (by omega), (k5 _ (by omega)).1, (k4 _ (by omega)).1]; exact b1
  · rw [hsI_n (by omega), (k5 _ (by omega)).1]; exact c1
  · rw [hsI_n (by omega)]; exact d1
/-- the object, made -/
theorem p24M (w : 160 ≤ g.1) {cc n : Nat} {C : Nat → Nat} (hcc : hI g 61 5 = nI cc) (hc : cc ≤ 12) (e6 : hI g 61 6 = nI n) (hn : n ≤ 400) (N : hN g 62 = 12 ∧ hN g 63 = 12 ∧ hN g 64 = 12 ∧ hN g 65 = 400) (cv : ∀ j, j < n → hI g 65 j = nI (C j) ∧ C j < 20000) (hF : 1000 ≤ F) : ∃ g', p24 F (hnew g 1 7 (fun _ => 0)) g.1 a0 = some g' ∧ NLW g g' a0 cc n (b2 (anyN (fun k => decide (C k = 10012)) n)) := by
  have e80 : (80 : Int32).toNatClampNeg = 80 := by decide
  rw [p24_0, ob, e80]
  generalize eh0 : hnew g 1 7 (fun _ => 0) = h0
  have o1 : h0.1 = g.1 + 1 := by rw [← eh0]; exact Eq.trans rfl rfl
  have f0 : FR [31] [] nD g h0 := by rw [← eh0]; exact (FR.rf nD160).nw
  have i0 : ∀ x, ¬ x = g.1 → hI h0 x = hI g x ∧ hN h0 x = hN g x := fun x hx => by rw [← eh0]; exact ⟨hI_Wn hx, hN_Wn hx⟩
  have t0 : hT h0 g.1 = 1 := by rw [← eh0]; exact hT_W g 1 7 _
  have s0 : h0.2.1 = g.2.1 + 7 := by rw [← eh0]; exact Eq.trans rfl rfl
  have t1 : hT (hnew h0 23 80 (fun _ => 0)) g.1 = 1 := (hT_Wn (by omega)).trans t0
  rw [if_pos t1]
  generalize eh : hsR (hnew h0 23 80 (fun _ => 0)) g.1 6 (some h0.1) = h
  obtain ⟨x1, x2, x3, x4, x5⟩ := exA eh
  have fh : FR [31] [] nD g h := by rw [← eh]; exact f0.nw.sR (Or.inr (Or.inr (Nat.le_refl _)))
  have sh : h.2.1 = g.2.1 + 87 := by rw [← eh, show g.2.1 + 87 = g.2.1 + 7 + 80 from Eq.trans rfl rfl, ← s0]; exact Eq.trans rfl rfl
  rw [o1] at x2 x3 x4 x5
  have x1 : h.1 = g.1 + 2 := by rw [x1, o1]
  have S1 : NS g (hsI h g.1 0 a0) (g.1 + 2) (g.2.1 + 87) := ⟨fh.sI (Or.inr (Or.inr (Or.inr (Nat.le_refl _)))), x1, sh, fun x hx => ⟨(hsI_n (by omega)).trans (((x2 x (by omega)).1).trans (i0 x (by omega)).1), ((x2 x (by omega)).2.2).trans (i0 x (by omega)).2⟩, ((x2 g.1 (by omega)).2.1).trans t0⟩
  obtain ⟨h2, h3, h4, h5, e1, S5, ⟨A2, K2⟩, ⟨A3, K3⟩, ⟨A4, K4⟩, A5, K5⟩ := p24E (F := F) (a0 := a0) w hcc hc e6 hn N S1
  have eL := p24L (F := F) (a0 := a0) (h := h5) (o := g.1) (n := n) (C := C) A5.2 A5.1.2.1 A5.1.2.2 hn (fun j hj => ⟨by rw [A5.1.1, cpy_l hj]; exact (cv j hj).1, (cv j hj).2⟩) n 0 F (by omega) (by omega)
  rw [show b2 (anyN (fun k => decide (C k = 10012)) 0) = 0 from Eq.trans rfl rfl, show nI 0 = (0 : Int32) from rfl] at eL
  exact ⟨_, e1.trans eL, p24F w (hsI_s h g.1 0 a0) x4 ⟨x3.2.1, x3.2.2⟩ S5 A2 K2 A3 K3 A4 K4 A5 K5⟩
end NLM
