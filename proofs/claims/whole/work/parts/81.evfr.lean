/-! the state goes on where its cells are not written -/
def evK : List (Nat × Nat) := [(32, 0), (86, 1), (33, 0), (86, 2), (33, 1), (86, 3), (32, 2), (86, 14), (50, 0), (86, 20), (50, 2), (86, 21), (50, 1), (86, 31), (50, 3), (86, 32), (50, 4), (86, 33), (32, 3), (86, 58), (32, 4), (86, 72), (68, 0), (86, 85), (57, 0), (86, 52), (77, 1), (86, 91)]
def evI : List Nat := [95, 96, 97, 98, 99, 103, 104, 105, 106, 107, 108, 111, 112, 113, 114, 115, 116, 117, 118, 119, 120, 121, 122, 123, 124]
def evRr : List Nat := [49, 53, 54, 55]
def evI2 : List Nat := [103, 104, 105, 106, 107, 108, 111, 112, 113, 114, 115, 116, 117, 118, 119, 120, 121, 122, 123, 124]
theorem evI2_lt : ∀ p, p ∈ evI2 → p < 160 ∧ p ∈ evI := by decide
theorem evI_lt : ∀ p, p ∈ evI → p < 160 := by decide
theorem evR_lt : ∀ p, p ∈ evRr → p < 160 := by decide
theorem evK_lt : ∀ p, p ∈ evK → p.1 < 160 ∧ p.1 ∈ fxR := by decide
abbrev wl (W : List Nat) (K : List (Nat × Nat)) : Prop := (∀ a, a ∈ W → a < 160) ∧ ∀ p, p ∈ K → p.1 < 160
abbrev evOK (W : List Nat) (K : List (Nat × Nat)) : Prop := wl W K ∧ (∀ a, a ∈ fxR → ¬ a ∈ W) ∧ (∀ p, p ∈ evK → ¬ p ∈ K) ∧ (∀ a, a ∈ evI → ¬ a ∈ W ∧ ¬ a ∈ K.map (fun p => p.1)) ∧ (∀ a, a ∈ evRr → ¬ a ∈ W)
abbrev evOG (W : List Nat) (K : List (Nat × Nat)) : Prop := wl W K ∧ (∀ a, a ∈ evI2 → ¬ a ∈ W ∧ ¬ a ∈ K.map (fun p => p.1)) ∧ (∀ a, a ∈ evRr → ¬ a ∈ W)
abbrev evOF (W : List Nat) (K : List (Nat × Nat)) : Prop := wl W K ∧ (∀ a, a ∈ evI → ¬ a ∈ W ∧ ¬ a ∈ K.map (fun p => p.1)) ∧ (∀ a, a ∈ evRr → ¬ a ∈ W)
theorem evOF.g {W : List Nat} {K : List (Nat × Nat)} (o : evOF W K) : evOG W K := ⟨o.1, fun a m => o.2.1 a (evI2_lt a m).2, o.2.2⟩
def evD (s : SS) (D : Nat → Prop) : Prop := (∀ i, i < s 0 3 → ¬ D (s 30 i)) ∧ (∀ i, i < s 0 5 → ¬ D (s 31 i)) ∧ (∀ i, i < s 0 7 → ¬ D (s 32 i)) ∧ (∀ i, i < s 0 8 → ¬ D (s 33 i))
theorem evD_n {s : SS} : evD s nD := ⟨fun _ _ z => z, fun _ _ z => z, fun _ _ z => z, fun _ _ z => z⟩
section EVFR
variable {s : SS} {W : List Nat} {K : List (Nat × Nat)} {D : Nat → Prop} {h h1 : HS}
theorem CN.fr (C : CN s h) (w : 160 ≤ h.1) (f : FR W K D h h1) (ok : evOK W K) : CN s h1 := by
  obtain ⟨-, o1, o2, -⟩ := ok
  have k : ∀ a k, (a, k) ∈ evK → hI h1 a k = hI h a k := fun a k m => f.fI w a k ⟨(evK_lt _ m).1, o1 a (evK_lt _ m).2, o2 _ m⟩
  refine ⟨⟨(k 32 0 (by decide)).trans C.c0, (k 86 1 (by decide)).trans C.m0, C.b0⟩, ⟨(k 33 0 (by decide)).trans C.c1, (k 86 2 (by decide)).trans C.m1, C.b1⟩, ⟨(k 33 1 (by decide)).trans C.c2, (k 86 3 (by decide)).trans C.m2, C.b2⟩, ⟨(k 32 2 (by decide)).trans C.c3, (k 86 14 (by decide)).trans C.m3, C.b3⟩, ⟨(k 50 0 (by decide)).trans C.c4, (k 86 20 (by decide)).trans C.m4, C.b4⟩, ⟨(k 50 2 (by decide)).trans C.c5, (k 86 21 (by decide)).trans C.m5, C.b5⟩, ⟨(k 50 1 (by decide)).trans C.c6, (k 86 31 (by decide)).trans C.m6, C.b6⟩, ⟨(k 50 3 (by decide)).trans C.c7, (k 86 32 (by decide)).trans C.m7, C.b7⟩, ⟨(k 50 4 (by decide)).trans C.c8, (k 86 33 (by decide)).trans C.m8, C.b8⟩, ⟨(k 32 3 (by decide)).trans C.c9, (k 86 58 (by decide)).trans C.m9, C.b9⟩, ⟨(k 32 4 (by decide)).trans C.c10, (k 86 72 (by decide)).trans C.m10, C.b10⟩, ⟨(k 68 0 (by decide)).trans C.c11, (k 86 85 (by decide)).trans C.m11, C.b11⟩, ⟨(k 57 0 (by decide)).trans C.c12, (k 86 52 (by decide)).trans C.m12, C.b12⟩, ⟨(k 77 1 (by decide)).trans C.c13, (k 86 91 (by decide)).trans C.m13, C.b13⟩⟩
theorem SHc.fr (H : SHc s h) (w : 160 ≤ h.1) (f : FR W K D h h1) (ok : evOF W K) (dd : ∀ i, i < s 0 3 → ¬ D (s 30 i)) : SHc s h1 := by
  obtain ⟨⟨ow, ok'⟩, o1, o2⟩ := ok
  have r : ∀ a k, a ∈ evI → hI h1 a k = hI h a k := fun a k m => f.fI w a k ⟨evI_lt _ m, (o1 a m).1, fun z => (o1 a m).2 (List.mem_map.mpr ⟨_, z, rfl⟩)⟩
  have q : ∀ a k, a ∈ evRr → hR h1 a k = hR h a k := fun a k m => congrFun (f.fR w a ⟨evR_lt _ m, o2 a m⟩) k
  intro i hi
  have lo := H.lo hi
  have up := H.hi hi
  have ub : s 30 i < h.1 := by omega
  have oI : ∀ k, hI h1 (s 30 i) k = hI h (s 30 i) k := fun k => f.oI ow ok' lo ub (dd i hi) k
  have oR : ∀ k, hR h1 (s 30 i) k = hR h (s 30 i) k := fun k => f.oR ow lo ub (dd i hi) k
  exact ⟨(r 95 i (by decide)).trans (H.m1 hi), (r 96 i (by decide)).trans (H.m2 hi), (r 97 i (by decide)).trans (H.m3 hi), (r 98 i (by decide)).trans (H.m4 hi), (r 99 i (by decide)).trans (H.m5 hi), (q 49 i (by decide)).trans (H.o hi), (f.T ub).trans (H.t hi), (oI 0).trans (H.f0 hi), (oI 1).trans (H.f1 hi), (oI 2).trans (H.f2 hi), (oI 3).trans (H.f3 hi), (oI 4).trans (H.f4 hi), (oI 7).trans (H.f7 hi), H.b1 hi, H.b2 hi, H.b3 hi, H.b4 hi, H.b5 hi, (oR 8).trans (H.r8 hi), (oR 9).trans (H.r9 hi), (oR 10).trans (H.r10 hi), (oR 11).trans (H.r11 hi), (oR 12).trans (H.r12 hi), ⟨(f.T (by omega)).trans (H.t1 hi).1, (f.N (by omega)).trans (H.t1 hi).2⟩, ⟨(f.T (by omega)).trans (H.t2 hi).1, (f.N (by omega)).trans (H.t2 hi).2⟩, ⟨(f.T (by omega)).trans (H.t3 hi).1, (f.N (by omega)).trans (H.t3 hi).2⟩, ⟨(f.T (by omega)).trans (H.t4 hi).1, (f.N (by omega)).trans (H.t4 hi).2⟩, ⟨(f.T (by omega)).trans (H.t5 hi).1, (f.N (by omega)).trans (H.t5 hi).2⟩, H.lo hi, Nat.le_trans (H.hi hi) f.1⟩
theorem SNc.fr (H : SNc s h) (w : 160 ≤ h.1) (f : FR W K D h h1) (ok : evOG W K) (dd : ∀ i, i < s 0 5 → ¬ D (s 31 i)) : SNc s h1 := by
  obtain ⟨⟨ow, ok'⟩, o1, o2⟩ := ok
  have r : ∀ a k, a ∈ evI2 → hI h1 a k = hI h a k := fun a k m => f.fI w a k ⟨(evI2_lt _ m).1, (o1 a m).1, fun z => (o1 a m).2 (List.mem_map.mpr ⟨_, z, rfl⟩)⟩
  have q : ∀ a k, a ∈ evRr → hR h1 a k = hR h a k := fun a k m => congrFun (f.fR w a ⟨evR_lt _ m, o2 a m⟩) k
  intro i hi
  have lo := H.lo hi
  have up := H.hi hi
  have ub : s 31 i < h.1 := by omega
  have oI : ∀ k, hI h1 (s 31 i) k = hI h (s 31 i) k := fun k => f.oI ow ok' lo ub (dd i hi) k
  have oR : ∀ k, hR h1 (s 31 i) k = hR h (s 31 i) k := fun k => f.oR ow lo ub (dd i hi) k
  exact ⟨(r 103 i (by decide)).trans (H.m0 hi), (r 104 i (by decide)).trans (H.m1 hi), (r 105 i (by decide)).trans (H.m2 hi), (r 106 i (by decide)).trans (H.m3 hi), (r 107 i (by decide)).trans (H.m4 hi), (r 108 i (by decide)).trans (H.m5 hi), (q 53 i (by decide)).trans (H.o hi), (f.T ub).trans (H.t hi), (oR 0).trans (H.r0 hi), (oI 1).trans (H.f1 hi), (oI 2).trans (H.f2 hi), (oI 4).trans (H.f4 hi), (oI 6).trans (H.f6 hi), (oI 8).trans (H.f8 hi), (oI 9).trans (H.f9 hi), H.b0 hi, H.b1 hi, H.b2 hi, H.b3 hi, H.b4 hi, H.b5 hi, H.lo hi, Nat.le_trans (H.hi hi) f.1⟩
theorem RPc.fr (H : RPc s h) (w : 160 ≤ h.1) (f : FR W K D h h1) (ok : evOG W K) (dd : ∀ i, i < s 0 7 → ¬ D (s 32 i)) : RPc s h1 := by
  obtain ⟨⟨ow, ok'⟩, o1, o2⟩ := ok
  have r : ∀ a k, a ∈ evI2 → hI h1 a k = hI h a k := fun a k m => f.fI w a k ⟨(evI2_lt _ m).1, (o1 a m).1, fun z => (o1 a m).2 (List.mem_map.mpr ⟨_, z, rfl⟩)⟩
  have q : ∀ a k, a ∈ evRr → hR h1 a k = hR h a k := fun a k m => congrFun (f.fR w a ⟨evR_lt _ m, o2 a m⟩) k
  intro i hi
  have lo := H.lo hi
  have up := H.hi hi
  have ub : s 32 i < h.1 := by omega
  have oI : ∀ k, hI h1 (s 32 i) k = hI h (s 32 i) k := fun k => f.oI ow ok' lo ub (dd i hi) k
  have oR : ∀ k, hR h1 (s 32 i) k = hR h (s 32 i) k := fun k => f.oR ow lo ub (dd i hi) k
  exact ⟨(r 111 i (by decide)).trans (H.m0 hi), (r 112 i (by decide)).trans (H.m1 hi), (r 113 i (by decide)).trans (H.m2 hi), (r 114 i (by decide)).trans (H.m3 hi), (r 115 i (by decide)).trans (H.m4 hi), (r 116 i (by decide)).trans (H.m5 hi), (r 117 i (by decide)).trans (H.m6 hi), (r 118 i (by decide)).trans (H.m7 hi), (r 119 i (by decide)).trans (H.m8 hi), (q 54 i (by decide)).trans (H.o hi), (f.T ub).trans (H.t hi), (oR 0).trans (H.r0 hi), (oI 1).trans (H.f1 hi), (oI 2).trans (H.f2 hi), (oI 3).trans (H.f3 hi), (oI 4).trans (H.f4 hi), (oI 5).trans (H.f5 hi), (oI 6).trans (H.f6 hi), (oI 8).trans (H.f8 hi), (oI 9).trans (H.f9 hi), H.b0 hi, H.b1 hi, H.b2 hi, H.b3 hi, H.b4 hi, H.b5 hi, H.b6 hi, H.b7 hi, H.b8 hi, H.b9 hi, H.lo hi, Nat.le_trans (H.hi hi) f.1⟩
theorem BLc.fr (H : BLc s h) (w : 160 ≤ h.1) (f : FR W K D h h1) (ok : evOG W K) (dd : ∀ i, i < s 0 8 → ¬ D (s 33 i)) : BLc s h1 := by
  obtain ⟨⟨ow, ok'⟩, o1, o2⟩ := ok
  have r : ∀ a k, a ∈ evI2 → hI h1 a k = hI h a k := fun a k m => f.fI w a k ⟨(evI2_lt _ m).1, (o1 a m).1, fun z => (o1 a m).2 (List.mem_map.mpr ⟨_, z, rfl⟩)⟩
  have q : ∀ a k, a ∈ evRr → hR h1 a k = hR h a k := fun a k m => congrFun (f.fR w a ⟨evR_lt _ m, o2 a m⟩) k
  intro i hi
  have lo := H.lo hi
  have up := H.hi hi
  have ub : s 33 i < h.1 := by omega
  have oI : ∀ k, hI h1 (s 33 i) k = hI h (s 33 i) k := fun k => f.oI ow ok' lo ub (dd i hi) k
  have oR : ∀ k, hR h1 (s 33 i) k = hR h (s 33 i) k := fun k => f.oR ow lo ub (dd i hi) k
  exact ⟨(r 120 i (by decide)).trans (H.m0 hi), (r 121 i (by decide)).trans (H.m1 hi), (r 122 i (by decide)).trans (H.m2 hi), (r 123 i (by decide)).trans (H.m3 hi), (r 124 i (by decide)).trans (H.m4 hi), (q 55 i (by decide)).trans (H.o hi), (f.T ub).trans (H.t hi), (oR 0).trans (H.r0 hi), (oI 1).trans (H.f1 hi), (oI 2).trans (H.f2 hi), (oI 3).trans (H.f3 hi), (oI 7).trans (H.f7 hi), H.b0 hi, H.b1 hi, H.b2 hi, H.b3 hi, H.b4 hi, H.lo hi, Nat.le_trans (H.hi hi) f.1⟩
theorem EV.fr (E : EV s h) (f : FR W K D h h1) (ok : evOK W K) (dd : evD s D) : EV s h1 :=
  have o : evOF W K := ⟨ok.1, ok.2.2.2⟩
  have o2 : evOG W K := o.g
  ⟨E.w.fr f ok.2.1, E.cn.fr E.w.1 f ok, E.sh.fr E.w.1 f o dd.1, E.sn.fr E.w.1 f o2 dd.2.1, E.rp.fr E.w.1 f o2 dd.2.2.1, E.bl.fr E.w.1 f o2 dd.2.2.2⟩
end EVFR
/-! counters one by one -/
def evC (j : Nat) : Nat × Nat := evK.getD (2 * j) (0, 0)
def evM (j : Nat) : Nat := (evK.getD (2 * j + 1) (0, 0)).2
def evL (j : Nat) : Nat := ([3999, 20, 200, 200, 60, 400, 40, 200, 200, 20, 30, 60, 400, 12] : List Nat).getD j 0
section CNA
variable {s s1 : SS} {W : List Nat} {K : List (Nat × Nat)} {D : Nat → Prop} {h h1 : HS}
theorem CN_of (H : ∀ j, j < 14 → hI h (evC j).1 (evC j).2 = nI (s 0 j) ∧ hI h 86 (evM j) = nI (s 0 j) ∧ s 0 j ≤ evL j) : CN s h :=
  ⟨H 0 (by decide), H 1 (by decide), H 2 (by decide), H 3 (by decide), H 4 (by decide), H 5 (by decide), H 6 (by decide), H 7 (by decide), H 8 (by decide), H 9 (by decide), H 10 (by decide), H 11 (by decide), H 12 (by decide), H 13 (by decide)⟩
theorem CN_to (C : CN s h) : ∀ j, j < 14 → hI h (evC j).1 (evC j).2 = nI (s 0 j) ∧ hI h 86 (evM j) = nI (s 0 j) ∧ s 0 j ≤ evL j
  | 0, _ => ⟨C.c0, C.m0, C.b0⟩
  | 1, _ => ⟨C.c1, C.m1, C.b1⟩
  | 2, _ => ⟨C.c2, C.m2, C.b2⟩
  | 3, _ => ⟨C.c3, C.m3, C.b3⟩
  | 4, _ => ⟨C.c4, C.m4, C.b4⟩
  | 5, _ => ⟨C.c5, C.m5, C.b5⟩
  | 6, _ => ⟨C.c6, C.m6, C.b6⟩
  | 7, _ => ⟨C.c7, C.m7, C.b7⟩
  | 8, _ => ⟨C.c8, C.m8, C.b8⟩
  | 9, _ => ⟨C.c9, C.m9, C.b9⟩
  | 10, _ => ⟨C.c10, C.m10, C.b10⟩
  | 11, _ => ⟨C.c11, C.m11, C.b11⟩
  | 12, _ => ⟨C.c12, C.m12, C.b12⟩
  | 13, _ => ⟨C.c13, C.m13, C.b13⟩
  | n + 14, z => absurd z (by omega)
/-- all counters but those of a list go on -/
theorem CN.fx (C : CN s h) (w : 160 ≤ h.1) (f : FR W K D h h1) (X : List Nat) (hX : ∀ j, j < 14 → ¬ j ∈ X → s1 0 j = s 0 j ∧ ¬ evC j ∈ K ∧ ¬ (86, evM j) ∈ K) (hW : ∀ a, a ∈ fxR → ¬ a ∈ W) (hj : ∀ j, j ∈ X → hI h1 (evC j).1 (evC j).2 = nI (s1 0 j) ∧ hI h1 86 (evM j) = nI (s1 0 j) ∧ s1 0 j ≤ evL j) : CN s1 h1 := by
  refine CN_of fun j hj14 => ?_
  by_cases m : j ∈ X
  · exact hj j m
  · obtain ⟨e, k1, k2⟩ := hX j hj14 m
    obtain ⟨c1, c2, c3⟩ := CN_to C j hj14
    have hz : ∀ j, j < 14 → (evC j).1 ∈ fxR ∧ (evC j).1 < 160 := by decide
    rw [e]
    exact ⟨(f.fI w _ _ ⟨(hz j hj14).2, hW _ (hz j hj14).1, k1⟩).trans c1, (f.fI w 86 _ ⟨by decide, hW 86 (by decide), k2⟩).trans c2, c3⟩
theorem SHc.sw (H : SHc s h) (e0 : s1 0 3 = s 0 3) (e : ∀ r, 1 ≤ r → r ≤ 33 → s1 r = s r) : SHc s1 h := by
  intro i hi
  rw [e0] at hi
  have := H i hi
  rw [e 1 (by decide) (by decide), e 2 (by decide) (by decide), e 3 (by decide) (by decide), e 4 (by decide) (by decide), e 5 (by decide) (by decide), e 30 (by decide) (by decide)]
  exact this
theorem SNc.sw (H : SNc s h) (e0 : s1 0 5 = s 0 5) (e4 : s1 0 4 = s 0 4) (e : ∀ r, 1 ≤ r → r ≤ 33 → s1 r = s r) : SNc s1 h := by
  intro i hi
  rw [e0] at hi
  have := H i hi
  rw [e 6 (by decide) (by decide), e 7 (by decide) (by decide), e 8 (by decide) (by decide), e 9 (by decide) (by decide), e 10 (by decide) (by decide), e 11 (by decide) (by decide), e 31 (by decide) (by decide), e4]
  exact this
theorem RPc.sw (H : RPc s h) (e7 : s1 0 7 = s 0 7) (e3 : s1 0 3 = s 0 3) (e6 : s1 0 6 = s 0 6) (e4 : s1 0 4 = s 0 4) (e : ∀ r, 1 ≤ r → r ≤ 33 → s1 r = s r) : RPc s1 h := by
  intro i hi
  rw [e7] at hi
  have := H i hi
  rw [e 12 (by decide) (by decide), e 13 (by decide) (by decide), e 14 (by decide) (by decide), e 15 (by decide) (by decide), e 16 (by decide) (by decide), e 17 (by decide) (by decide), e 18 (by decide) (by decide), e 19 (by decide) (by decide), e 20 (by decide) (by decide), e 30 (by decide) (by decide), e 32 (by decide) (by decide), e 3 (by decide) (by decide), e3, e4, e6]
  exact this
theorem BLc.sw (H : BLc s h) (e8 : s1 0 8 = s 0 8) (e3 : s1 0 3 = s 0 3) (e6 : s1 0 6 = s 0 6) (e : ∀ r, 1 ≤ r → r ≤ 33 → s1 r = s r) : BLc s1 h := by
  intro i hi
  rw [e8] at hi
  have := H i hi
  rw [e 21 (by decide) (by decide), e 22 (by decide) (by decide), e 23 (by decide) (by decide), e 24 (by decide) (by decide), e 25 (by decide) (by decide), e 30 (by decide) (by decide), e 33 (by decide) (by decide), e3, e6]
  exact this
/-- all but some of the counters 0, 1, 2, 9 to 13 -/
abbrev evOX (X W : List Nat) (K : List (Nat × Nat)) : Prop := wl W K ∧ (∀ a, a ∈ fxR → ¬ a ∈ W) ∧ (∀ j, j < 14 → j ∈ X ∨ (¬ evC j ∈ K ∧ ¬ (86, evM j) ∈ K)) ∧ (∀ a, a ∈ evI → ¬ a ∈ W ∧ ¬ a ∈ K.map (fun p => p.1)) ∧ (∀ a, a ∈ evRr → ¬ a ∈ W) ∧ (∀ j, j ∈ X → j < 3 ∨ 8 < j)
theorem EV.fx (E : EV s h) (f : FR W K D h h1) {X : List Nat} (ok : evOX X W K) (dd : evD s D) (e : ∀ r, 1 ≤ r → r ≤ 33 → s1 r = s r) (e0 : ∀ j, j < 14 → ¬ j ∈ X → s1 0 j = s 0 j) (hj : ∀ j, j ∈ X → hI h1 (evC j).1 (evC j).2 = nI (s1 0 j) ∧ hI h1 86 (evM j) = nI (s1 0 j) ∧ s1 0 j ≤ evL j) : EV s1 h1 := by
  have o : evOF W K := ⟨ok.1, ok.2.2.2.1, ok.2.2.2.2.1⟩
  have o2 : evOG W K := o.g
  have ex : ∀ j, 3 ≤ j → j ≤ 8 → s1 0 j = s 0 j := fun j l u => e0 j (by omega) (fun z => by have := ok.2.2.2.2.2 j z; omega)
  exact ⟨E.w.fr f ok.2.1, E.cn.fx E.w.1 f X (fun j l m => ⟨e0 j l m, (ok.2.2.1 j l).resolve_left m⟩) ok.2.1 hj, (E.sh.fr E.w.1 f o dd.1).sw (ex 3 (by decide) (by decide)) e, (E.sn.fr E.w.1 f o2 dd.2.1).sw (ex 5 (by decide) (by decide)) (ex 4 (by decide) (by decide)) e, (E.rp.fr E.w.1 f o2 dd.2.2.1).sw (ex 7 (by decide) (by decide)) (ex 3 (by decide) (by decide)) (ex 6 (by decide) (by decide)) (ex 4 (by decide) (by decide)) e, (E.bl.fr E.w.1 f o2 dd.2.2.2).sw (ex 8 (by decide) (by decide)) (ex 3 (by decide) (by decide)) (ex 6 (by decide) (by decide)) e⟩
end CNA
/-! the other families -/
def scI : List Nat := [34, 35, 36, 37, 87, 88, 89, 90, 91]
def laI : List Nat := [46, 47, 93, 94]
def rwI : List Nat := [51, 109, 52, 110, 74, 100, 75, 101, 76, 102, 69, 149, 70, 150, 71, 151, 73, 153, 78, 154, 79, 155]
abbrev frO (L W : List Nat) (K : List (Nat × Nat)) : Prop := ∀ a, a ∈ L → a < 160 ∧ ¬ a ∈ W ∧ ¬ a ∈ K.map (fun p => p.1)
section OFR
variable {s : SS} {W : List Nat} {K : List (Nat × Nat)} {D : Nat → Prop} {h h1 : HS}
theorem SCc.fr (S : SCc s h) (w : 160 ≤ h.1) (f : FR W K D h h1) (ok : frO scI W K) (o2 : ¬ 38 ∈ W) : SCc s h1 := by
  refine S.k (fun x hx => f.fA w x (ok x ?_)) (f.fL w 38 ⟨by decide, o2⟩) rfl rfl (Nat.le_refl _)
  rcases hx with rfl | rfl | rfl | rfl | rfl | rfl | rfl | rfl | rfl <;> decide
theorem LAc.fr (S : LAc s h) (w : 160 ≤ h.1) (f : FR W K D h h1) (ok : frO (39 :: laI) W K) (o2 : ¬ 86 ∈ W ∧ ¬ (86, 12) ∈ K ∧ ¬ (86, 13) ∈ K) : LAc s h1 := by
  refine S.k (fun x hx => f.fA w x (ok x ?_)) (f.fI w 86 12 ⟨by decide, o2.1, o2.2.1⟩) (f.fI w 86 13 ⟨by decide, o2.1, o2.2.2⟩) rfl
  rcases hx with rfl | rfl | rfl | rfl | rfl <;> decide
theorem CTc.fr (C : CTc s h) (E : EV s h) (f : FR W K D h h1) (ok : wl W K) (dd : ∀ i, i < s 0 3 → ¬ D (s 30 i)) : CTc s h1 := by
  refine C.k (fun i hi => ?_) rfl rfl rfl rfl rfl rfl
  have lo := E.sh.lo hi
  have up := E.sh.hi hi
  exact ⟨f.oI ok.1 ok.2 lo (by omega) (dd i hi) 5, f.oI ok.1 ok.2 lo (by omega) (dd i hi) 6⟩
theorem RWc.fr (R : RWc h) (w : 160 ≤ h.1) (f : FR W K D h h1) (ok : frO rwI W K) : RWc h1 := by
  obtain ⟨R1, R2, R3, R4, R5, R6, R7, R8, R9, R10, R11⟩ := R
  have k : ∀ a, a ∈ rwI → hI h1 a = hI h a := fun a m => f.fA w a (ok a m)
  exact ⟨by rw [k 51 (by decide), k 109 (by decide), R1], by rw [k 52 (by decide), k 110 (by decide), R2], by rw [k 74 (by decide), k 100 (by decide), R3], by rw [k 75 (by decide), k 101 (by decide), R4], by rw [k 76 (by decide), k 102 (by decide), R5], by rw [k 69 (by decide), k 149 (by decide), R6], by rw [k 70 (by decide), k 150 (by decide), R7], by rw [k 71 (by decide), k 151 (by decide), R8], by rw [k 73 (by decide), k 153 (by decide), R9], by rw [k 78 (by decide), k 154 (by decide), R10], by rw [k 79 (by decide), k 155 (by decide), R11]⟩
theorem ZSc.fr (Z : ZSc s h) (w : 160 ≤ h.1) (f : FR W K D h h1) (ok : frO [98, 99] W K) : ZSc s h1 := by
  intro i hi
  rw [f.fA w 98 (ok 98 (by decide)), f.fA w 99 (ok 99 (by decide))]
  exact Z i hi
end OFR
