/-! all families together -/
/-- the families of the first calls -/
def AO (s : SS) (h : HS) : Prop := EV s h ∧ DI s ∧ SCc s h ∧ LAc s h ∧ CTc s h ∧ RWc h ∧ ZSc s h
/-- the others -/
def AN (s : SS) (h : HS) : Prop := LTr h (s 50 0) (s 50 1) (s 0 2) ∧ TPc s h ∧ RDc s h ∧ LNc s h ∧ LWc s h ∧ OFc s h ∧ ORc s h ∧ (FAc h ∧ STc h) ∧ hI h 32 1 = hI h 86 73
def AL (s : SS) (h : HS) : Prop := AO s h ∧ AN s h
def anI : List Nat := [46, 47, 58, 126, 141, 142, 143, 144, 145, 139, 140, 146, 127, 128, 129, 130, 131, 132, 133, 134, 149, 150, 151, 152, 72, 153, 101, 154, 155, 80, 158, 0, 2, 3, 4, 5, 6, 7, 8, 9, 10, 11, 12, 13, 14, 15, 16, 17, 18, 19, 20, 21, 22, 23]
def anR : List Nat := [66, 67, 138, 32, 77, 86]
def anK : List (Nat × Nat) := [(77, 4), (86, 92), (32, 1), (86, 73)]
abbrev anOK (W : List Nat) (K : List (Nat × Nat)) : Prop := wl W K ∧ frO anI W K ∧ (∀ a, a ∈ anR → ¬ a ∈ W) ∧ ∀ p, p ∈ anK → ¬ p ∈ K
def anD (s : SS) (D : Nat → Prop) : Prop := (∀ i, i < s 0 10 → ¬ D (s 35 i)) ∧ (∀ i, i < s 0 3 → ∀ k, 1 ≤ k → k < 6 → ¬ D (s 30 i + k)) ∧ ∀ l, l < s 0 9 → ∀ k, k < 6 → ¬ k = 1 → ¬ D (s 34 l + k)
def anS (s t : SS) : Prop := s 0 2 ≤ t 0 2 ∧ t 0 12 ≤ s 0 12 ∧ t 0 10 = s 0 10 ∧ t 0 4 = s 0 4 ∧ t 0 3 = s 0 3 ∧ t 0 9 = s 0 9 ∧ t 0 11 = s 0 11 ∧ t 0 13 = s 0 13 ∧ s 0 6 ≤ t 0 6 ∧ t 5 = s 5 ∧ t 30 = s 30 ∧ ∀ r, 34 ≤ r → t r = s r
theorem anS_rf (s : SS) : anS s s := ⟨Nat.le_refl _, Nat.le_refl _, rfl, rfl, rfl, rfl, rfl, rfl, Nat.le_refl _, rfl, rfl, fun _ _ => rfl⟩
theorem anD_n {s : SS} : anD s nD := ⟨fun _ _ z => z, fun _ _ _ _ _ z => z, fun _ _ _ _ _ z => z⟩
section AL0
variable {s t : SS} {h g : HS} {W : List Nat} {K : List (Nat × Nat)} {D : Nat → Prop}
theorem LTr.fr {n V N M : Nat} (T : LTr h n V N) (w : 160 ≤ h.1) (f : FR W K D h g) (ok : frO [46, 47] W K) (hM : N ≤ M) : LTr g n V M := by
  unfold LTr at T ⊢
  rw [f.fA w 46 (ok 46 (by decide)), f.fA w 47 (ok 47 (by decide))]
  exact ⟨fun z i hi => (T.1 z i hi).elim fun x y => ⟨x, Nat.lt_of_lt_of_le y.1 hM, y.2⟩, T.2⟩
theorem TPc.fr (T : TPc s h) (w : 160 ≤ h.1) (f : FR W K D h g) (ok : frO [58, 126] W K) (e : t 0 12 ≤ s 0 12) : TPc t g := by
  intro i hi
  rw [f.fA w 58 (ok 58 (by decide)), f.fA w 126 (ok 126 (by decide))]
  exact T i (Nat.lt_of_lt_of_le hi e)
theorem LNc.f2 (L : LNc s h) (E : EV s h) (f : FR W K D h g) (ok : wl W K ∧ ¬ 138 ∈ W ∧ frO [139, 140, 146] W K) (dd : ∀ i, i < s 0 3 → ∀ k, 1 ≤ k → k < 6 → ¬ D (s 30 i + k)) (e3 : t 0 3 = s 0 3) (e5 : t 5 = s 5) (e30 : t 30 = s 30) (e4 : s 0 4 ≤ t 0 4) : LNc t g := by
  obtain ⟨L1, L2, L3⟩ := L
  have w := E.w.1
  have k1 := f.fL w 138 ⟨by decide, ok.2.1⟩
  have k2 := f.fA w 139 (ok.2.2 139 (by decide))
  have k3 := f.fA w 140 (ok.2.2 140 (by decide))
  have k4 := f.fA w 146 (ok.2.2 146 (by decide))
  have oI : ∀ i, i < s 0 3 → ∀ k, 1 ≤ k → k < 6 → ∀ j, hI g (s 30 i + k) j = hI h (s 30 i + k) j := fun i hi k k1 hk j => f.oI ok.1.1 ok.1.2 (by have := E.sh.lo hi; omega) (by have := E.sh.hi hi; omega) (dd i hi k k1 hk) j
  have oLo : ∀ i, i < s 0 3 → ∀ k, 1 ≤ k → k < 6 → ∀ j, hL g (s 30 i + k) j = hL h (s 30 i + k) j := fun i hi k k1 hk j => f.oLo ok.1.1 (by have := E.sh.lo hi; omega) (by have := E.sh.hi hi; omega) (dd i hi k k1 hk) j
  refine ⟨fun i hi j hj => ?_, fun i hi j hj r hr => ?_, fun i hi h2 j hj r hr => ?_⟩
  · rw [e3] at hi
    rw [e5] at hj
    rw [e30, oLo i hi 1 (by decide) (by decide), oI i hi 2 (by decide) (by decide), oI i hi 3 (by decide) (by decide), k1, k2, k3]
    obtain ⟨q1, q2, q3, q4⟩ := L1 i hi j hj
    exact ⟨q1, q2, q3, fun q hq hb => Nat.lt_of_lt_of_le (q4 q hq hb) e4⟩
  · rw [e3] at hi
    rw [e30, oI i hi 4 (by decide) (by decide), oI i hi 5 (by decide) (by decide), k4]
    exact L2 i hi j hj r hr
  · rw [e3] at hi
    rw [k4]
    exact L3 i hi h2 j hj r hr
theorem LWc.st (L : LWc s h) (e9 : t 0 9 = s 0 9) (e : ∀ r, 34 ≤ r → t r = s r) (d : ∀ l i, l < s 0 9 → i < t 0 3 → s 34 l + 6 ≤ t 30 i ∨ t 30 i + 6 ≤ s 34 l) : LWc t h := by
  obtain ⟨L1, L2, -⟩ := L
  refine ⟨fun l hl => ?_, fun l m hl hm => ?_, fun l i hl hi => ?_⟩
  · rw [e9] at hl
    exact lwP.st (s' := t) (h := h) (L1 l hl) (by rw [e 34 (by decide)]) (by rw [e 45 (by decide)]) (by rw [e 46 (by decide)]) (by rw [e 47 (by decide)]) (e _ (by omega)) (e _ (by omega)) (e _ (by omega)) (e _ (by omega))
  · rw [e9] at hl hm
    rw [e 34 (by decide)]
    exact L2 l m hl hm
  · rw [e9] at hl
    rw [e 34 (by decide)]
    exact d l i hl hi
theorem OFc.fr (O : OFc s h) (w : 160 ≤ h.1) (f : FR W K D h g) (ok : frO [149, 150, 151, 152, 72, 153, 101] W K) (e11 : t 0 11 = s 0 11) (e4 : t 0 4 = s 0 4) (e6 : s 0 6 ≤ t 0 6) : OFc t g := by
  unfold OFc at O ⊢
  rw [f.fA w 149 (ok 149 (by decide)), f.fA w 150 (ok 150 (by decide)), f.fA w 151 (ok 151 (by decide)), f.fA w 152 (ok 152 (by decide)), f.fA w 72 (ok 72 (by decide)), f.fA w 153 (ok 153 (by decide)), f.fA w 101 (ok 101 (by decide)), e11, e4]
  refine ⟨fun i hi => ?_, O.2⟩
  obtain ⟨q, c, u, v, h1, h2, h3⟩ := O.1 i hi
  exact ⟨q, c, u, v, h1, Nat.lt_of_lt_of_le h2 e6, h3⟩
theorem ORc.fr (O : ORc s h) (w : 160 ≤ h.1) (f : FR W K D h g) (ok : frO [154, 155, 80, 158] W K ∧ ¬ 77 ∈ W ∧ ¬ 86 ∈ W ∧ ¬ (77, 4) ∈ K ∧ ¬ (86, 92) ∈ K) (e : t 0 13 = s 0 13) : ORc t g := by
  unfold ORc ORa at O ⊢
  rw [f.fA w 154 (ok.1 154 (by decide)), f.fA w 155 (ok.1 155 (by decide)), f.fA w 80 (ok.1 80 (by decide)), f.fA w 158 (ok.1 158 (by decide)), f.fI w 77 4 ⟨by decide, ok.2.1, ok.2.2.2.1⟩, f.fI w 86 92 ⟨by decide, ok.2.2.1, ok.2.2.2.2⟩, e]
  exact O
abbrev ctOK (W : List Nat) (K : List (Nat × Nat)) : Prop := frO [0] W K ∧ frO [2, 3, 4, 5, 6, 7, 8, 9, 10, 11, 12, 13, 14, 15, 16, 17, 18, 19, 20, 21, 22, 23] W K
theorem CT.fr (C : FAc h ∧ STc h) (w : 160 ≤ h.1) (f : FR W K D h g) (ok : ctOK W K) : FAc g ∧ STc g := ⟨C.1.fr w f ok.1, C.2.fr w f ok.2⟩
theorem w32_fr (e : hI h 32 1 = hI h 86 73) (w : 160 ≤ h.1) (f : FR W K D h g) (ok : ¬ 32 ∈ W ∧ ¬ 86 ∈ W ∧ ¬ (32, 1) ∈ K ∧ ¬ (86, 73) ∈ K) : hI g 32 1 = hI g 86 73 := by
  rw [f.fI w 32 1 ⟨by decide, ok.1, ok.2.2.1⟩, f.fI w 86 73 ⟨by decide, ok.2.1, ok.2.2.2⟩]
  exact e
/-- the others go on -/
theorem AN.fr (A : AN s h) (E : EV s h) (f : FR W K D h g) (ok : anOK W K) (dd : anD s D) (S : anS s t) : AN t g := by
  obtain ⟨A1, A2, A3, A4, A5, A6, A7, A8, A9⟩ := A
  obtain ⟨S2, S12, S10, S4, S3, S9, S11, S13, S6, S5, S30, SR⟩ := S
  obtain ⟨o1, o2, o3, o4⟩ := ok
  have w := E.w.1
  have q : ∀ L : List Nat, (∀ a, a ∈ L → a ∈ anI) → frO L W K := fun L hL a m => o2 a (hL a m)
  refine ⟨?_, A2.fr w f (q _ (by decide)) S12, A3.fr w f ⟨o1, o3 67 (by decide), q _ (by decide)⟩ dd.1 S10 (SR 35 (by decide)) (Nat.le_of_eq S4.symm) (Nat.le_of_eq S3.symm) (fun k _ => by rw [S30]), A4.f2 E f ⟨o1, o3 138 (by decide), q _ (by decide)⟩ dd.2.1 S3 S5 S30 (Nat.le_of_eq S4.symm), ?_, A6.fr w f (q _ (by decide)) S11 S4 S6, A7.fr w f ⟨q _ (by decide), o3 77 (by decide), o3 86 (by decide), o4 _ (by decide), o4 _ (by decide)⟩ S13, CT.fr A8 w f ⟨q _ (by decide), q _ (by decide)⟩, w32_fr A9 w f ⟨o3 32 (by decide), o3 86 (by decide), o4 _ (by decide), o4 _ (by decide)⟩⟩
  · rw [SR 50 (by decide)]
    exact A1.fr w f (q _ (by decide)) S2
  · exact (A5.fr w f ⟨o1, o3 66 (by decide), q _ (by decide)⟩ dd.2.2).st S9 SR (fun l i hl hi => by rw [S30]; rw [S3] at hi; exact A5.2.2 l i hl hi)
abbrev aoOK (W : List Nat) (K : List (Nat × Nat)) : Prop := evOK W K ∧ (frO scI W K ∧ ¬ 38 ∈ W) ∧ (frO (39 :: laI) W K ∧ ¬ 86 ∈ W ∧ ¬ (86, 12) ∈ K ∧ ¬ (86, 13) ∈ K) ∧ frO rwI W K ∧ frO [98, 99] W K
/-- the first go on -/
theorem AO.fr (A : AO s h) (f : FR W K D h g) (ok : aoOK W K) (dd : evD s D) : AO s g := by
  obtain ⟨A1, A2, A3, A4, A5, A6, A7⟩ := A
  obtain ⟨o1, o2, o3, o4, o5⟩ := ok
  have w := A1.w.1
  exact ⟨A1.fr f o1 dd, A2, A3.fr w f o2.1 o2.2, A4.fr w f o3.1 o3.2, A5.fr A1 f o1.1 dd.1, A6.fr w f o4, A7.fr w f o5⟩
theorem AL.fr (A : AL s h) (f : FR W K D h g) (ok : aoOK W K ∧ anOK W K) (dd : evD s D ∧ anD s D) : AL s g := ⟨A.1.fr f ok.1 dd.1, A.2.fr A.1.1 f ok.2 dd.2 (anS_rf s)⟩
/-- what an evaluation may write -/
theorem stk_an (E : EV s h) (R : RDc s h) (L : LWc s h) : anD s (stk s) := ⟨stk_rd R L, fun i hi k _ hk => stk_ln L i hi k hk, stk_lw L⟩
end AL0
/-! what is asked of each call -/
def AX (h : HS) : Prop := ∃ s, AL s h
/-- the script stays -/
def SK (h g : HS) : Prop := hN g 1 = hN h 1 ∧ hI g 1 = hI h 1
def GR (h g : HS) : Prop := (g.1 ≤ h.1 + 6 ∧ g.2.1 ≤ h.2.1 + 700) ∧ SK h g
def CO {α : Type} (h : HS) (c : Option (α × HS)) (m : HS → Option (α × HS)) : Prop := ∃ v h1 h2, c = some (v, h1) ∧ m h1 = some (v, h2) ∧ AX h2 ∧ GR h h2
theorem SK.fr {h g : HS} {W : List Nat} {K : List (Nat × Nat)} {D : Nat → Prop} (w : 160 ≤ h.1) (f : FR W K D h g) (ok : ¬ 1 ∈ W ∧ ¬ 1 ∈ K.map (fun p => p.1)) : SK h g := ⟨f.N (by omega), f.fA w 1 ⟨by decide, ok.1, ok.2⟩⟩
theorem SK.tr {a b c : HS} (x : SK a b) (y : SK b c) : SK a c := ⟨y.1.trans x.1, y.2.trans x.2⟩
theorem GR.rf (h : HS) : GR h h := ⟨⟨Nat.le_add_right _ _, Nat.le_add_right _ _⟩, rfl, rfl⟩
theorem GR.z {h g : HS} {W : List Nat} {K : List (Nat × Nat)} {D : Nat → Prop} (w : 160 ≤ h.1) (f : FR W K D h g) (hz : ¬ 31 ∈ W ∧ ¬ 1 ∈ W ∧ ¬ 1 ∈ K.map (fun p => p.1)) : GR h g := by
  have := f.z hz.1
  exact ⟨⟨by omega, by omega⟩, SK.fr w f hz.2⟩
