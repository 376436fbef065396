/-! take: both sides -/
def sc_scr (s : SS) (h : HS) (i v : Nat) : HS := hsI (hsI h (s 30 i) 4 (nI v)) 98 i (nI v)
def tkB (s : SS) (h : HS) : HS := shtM (s 0 3) (shtC (s 0 3) h (nI (s 0 0))) (nI (s 0 0))
def tkM (s : SS) (h : HS) (R : Nat → Int32) : HS := haI (haI (sc_scr (st_sheet s h) (tkB s h) (s 0 3) (s 50 0)) 37 R) 91 R
def tkR (f : Nat → Int32) (r : Nat → Nat) (v : Int32) (i j : Nat) : Int32 := if anyN (fun t => decide (r t = j)) i then v else f j
theorem tkR_s {f : Nat → Int32} {r : Nat → Nat} {v : Int32} {i : Nat} : u1 (tkR f r v i) (r i) v = tkR f r v (i + 1) := by
  funext j
  unfold u1 tkR
  rw [anyN_s]
  by_cases z : j = r i
  · rw [if_pos z, decide_eq_true z.symm, Bool.or_true, if_pos rfl]
  · rw [if_neg z, decide_eq_false (fun y => z y.symm), Bool.or_false]
theorem hsI_c {h : HS} {a b k j : Nat} {v w : Int32} (e : ¬ a = b) : hsI (hsI h a k v) b j w = hsI (hsI h b j w) a k v := by
  have : u2 (u2 (hI h) a k v) b j w = u2 (u2 (hI h) b j w) a k v := by
    funext x y
    unfold u2
    by_cases z : x = b ∧ y = j
    · rw [if_pos z, if_neg (fun q => e (q.1.symm.trans z.1)), if_pos z]
    · rw [if_neg z]
      by_cases z2 : x = a ∧ y = k
      · rw [if_pos z2, if_pos z2]
      · rw [if_neg z2, if_neg z2, if_neg z]
  show (_, _, _, _, u2 (u2 (hI h) a k v) b j w, _, _) = _
  rw [this]
  rfl
theorem haI_c {h : HS} {a b : Nat} {f g : Nat → Int32} (e : ¬ a = b) : haI (haI h a f) b g = haI (haI h b g) a f := by
  have : uw (uw (hI h) a f) b g = uw (uw (hI h) b g) a f := by
    funext x y
    unfold uw
    by_cases z : x = b
    · rw [if_pos z, if_neg (fun q => e (q.symm.trans z)), if_pos z]
    · rw [if_neg z]
      by_cases z2 : x = a
      · rw [if_pos z2, if_pos z2]
      · rw [if_neg z2, if_neg z2, if_neg z]
  show (_, _, _, _, uw (uw (hI h) a f) b g, _, _) = _
  rw [this]
  rfl
theorem hsIa_c {h : HS} {a b j : Nat} {f : Nat → Int32} {w : Int32} (e : ¬ a = b) : hsI (haI h a f) b j w = haI (hsI h b j w) a f := by
  rw [hsI_ha, hsI_ha, hI_In (fun z => e z.symm), haI_c e]
section TK
variable {s : SS} {h : HS}
theorem ctL {N : Nat} {x : Nat → Nat} {F : Nat} {a : Int32} (hN : N ≤ 8) (e1 : hI h 39 1 = nI N) (hx : ∀ i, i < N → hI h 46 i = nI (x i) ∧ x i < 200) : ∀ (f i : Nat), i ≤ N → N - i < f → anyN (fun t => !decide (hI h 37 (x t) = -1)) i = false → p56_L12 F a f h (nI i) = some (b2 (!anyN (fun t => !decide (hI h 37 (x t) = -1)) N)) := by
  intro f
  induction f with
  | zero => intro i _ z; omega
  | succ f ih =>
    intro i hi hf ha
    rw [p56_L12, e1]
    by_cases z : i < N
    · obtain ⟨q1, q2⟩ := hx i z
      rw [if_pos (nI_lt z (by omega)), if_neg (nI_in (by omega) (by decide)), nI_clamp (by omega), q1, if_neg (nI_in (by omega) (by decide)), nI_clamp (by omega), nI_1]
      by_cases c : hI h 37 (x i) = -1
      · rw [if_pos c]
        exact ih (i + 1) (by omega) (by omega) (by rw [anyN_s, ha, decide_eq_true c]; rfl)
      · rw [if_neg c, anyN_iff.mpr ⟨i, z, by rw [decide_eq_false c]; rfl⟩]
        rfl
    · have : i = N := by omega
      subst this
      rw [if_neg Int32.lt_irrefl, ha]
      rfl
/-- what laid() says of a way -/
theorem ldE {g : HS} {N W k : Nat} {r : Nat → Nat} (hN : N ≤ 8) (hN0 : 0 < N) (hW : W < 1000000) (hk : k < 2) (hkW : k < W) (e12 : hI g 86 12 = nI N) (e13 : hI g 86 13 = nI W) (hr : ∀ i, i < N → hI g (93 + k) i = nI (r i)) {i : Nat} (hi : i < N) : p202 g (nI k) (nI i) = some (nI (r i)) := by
  have h1 : p187 g (nI k) 0 1 = some 1 := by
    rcases rngN (nI k) 0 1 (by decide) (by decide) with ⟨-, h⟩ | ⟨-, h, -⟩
    · have := h g
      unfold p187 at this
      rw [if_neg (show ¬ nI k < nI 0 from nI_pos (by omega)), if_neg (show ¬ nI 1 < nI k from nI_nlt (a := 1) (by omega) (by omega))] at this
      exact absurd this (by decide)
    · exact h g
  have h2 : p187 g (nI i) 0 (nI N - 1) = some 1 := by
    rcases ixc (nI i) N (by omega) with ⟨-, -, z⟩ | ⟨j, -, e, -, h⟩
    · exact absurd rfl (z i hi)
    · rw [e]; exact h g
  have hm1 : ¬ nI i = -1 := fun z => by have := m1_nI (n := i) (by omega); rw [this] at z; exact z
  unfold p202
  rw [e12, e13, if_neg (nI_ne0 hN0 (by omega)), if_neg hm1, h1, ob, if_neg n10, if_pos (nI_lt hkW (by omega)), h2, ob, if_neg n10]
  have hi' := hr i hi
  rcases (show k = 0 ∨ k = 1 by omega) with rfl | rfl
  · rw [if_pos (show nI 0 = 0 from rfl), if_neg (nI_in (by omega) (by decide)), nI_clamp (by omega)]
    exact congrArg some hi'
  · rw [if_neg (show ¬ nI 1 = 0 by decide), if_neg (nI_in (by omega) (by decide)), nI_clamp (by omega)]
    exact congrArg some hi'
theorem mtL {N W k : Nat} {r : Nat → Nat} {F : Nat} (hN : N ≤ 8) (hN0 : 0 < N) (hW : W < 1000000) (hk : k < 2) (hkW : k < W) (e12 : hI h 86 12 = nI N) (e13 : hI h 86 13 = nI W) (hr : ∀ i, i < N → hI h (93 + k) i = nI (r i) ∧ r i < 200) : ∀ (f i : Nat), i ≤ N → N - i < f → anyN (fun t => !decide (hI h 91 (r t) = -1)) i = false → p207_L38 F (nI k) f h (nI i) = if anyN (fun t => !decide (hI h 91 (r t) = -1)) N then some (-1, h) else Option.bind (p204 h) fun r12 => if (r12.1) < (0 : Int32) ∨ 200 ≤ (r12.1).toNatClampNeg then none else p207_L86 F (nI k) F (hsI (r12.2) (98) (r12.1).toNatClampNeg (hI (r12.2) (86) 12)) (r12.1) (0) := by
  intro f
  induction f with
  | zero => intro i _ z; omega
  | succ f ih =>
    intro i hi hf ha
    rw [p207_L38, e12]
    by_cases z : i < N
    · obtain ⟨q1, q2⟩ := hr i z
      rw [if_pos (nI_lt z (by omega)), ldE (r := r) hN hN0 hW hk hkW e12 e13 (fun i hi => (hr i hi).1) z, ob, if_neg (nI_in (by omega) (by decide)), nI_clamp (by omega), nI_1]
      by_cases c : hI h 91 (r i) = -1
      · rw [if_pos c]
        exact ih (i + 1) (by omega) (by omega) (by rw [anyN_s, ha, decide_eq_true c]; rfl)
      · rw [if_neg c, if_pos (anyN_iff.mpr ⟨i, z, by rw [decide_eq_false c]; rfl⟩)]
    · have : i = N := by omega
      subst this
      rw [if_neg Int32.lt_irrefl, ha, if_neg (by decide)]
theorem cfL {N o : Nat} {r : Nat → Nat} {F : Nat} {a v : Int32} (hN8 : N ≤ 8) (ho : o = 46 ∨ o = 47) (t : hT h o = 20 ∧ hN h o = 8) (e1 : hI h 39 1 = nI N) (hr : ∀ i, i < N → hI h o i = nI (r i) ∧ r i < 200) (f0 : Nat → Int32) : ∀ (f i : Nat), i ≤ N → N - i < f → p57_L9 F a v f (haI h 37 (tkR f0 r v i)) (some o) (nI i) = some (nI N, haI h 37 (tkR f0 r v N)) := by
  have no : ¬ o = 37 := by omega
  intro f
  induction f with
  | zero => intro i _ z; omega
  | succ f ih =>
    intro i hi hf
    rw [p57_L9, hI_In (by decide), e1]
    by_cases z : i < N
    · obtain ⟨q1, q2⟩ := hr i z
      rw [if_pos (nI_lt z (by omega)), ob, hT_I, if_pos t.1, hN_I, t.2, if_neg (nI_in (by omega) (by decide)), nI_clamp (by omega), hI_In no, q1, if_neg (nI_in (by omega) (by decide)), nI_clamp (by omega), nI_1, hsI_ha, hI_I, haI_I, tkR_s]
      exact ih (i + 1) (by omega) (by omega)
    · have : i = N := by omega
      subst this
      rw [if_neg Int32.lt_irrefl]
theorem mfL {N W k : Nat} {r : Nat → Nat} {F : Nat} {v : Int32} (hN : N ≤ 8) (hN0 : 0 < N) (hW : W < 1000000) (hk : k < 2) (hkW : k < W) (e12 : hI h 86 12 = nI N) (e13 : hI h 86 13 = nI W) (hr : ∀ i, i < N → hI h (93 + k) i = nI (r i) ∧ r i < 200) (f0 : Nat → Int32) : ∀ (f i : Nat), i ≤ N → N - i < f → p207_L86 F (nI k) f (haI h 91 (tkR f0 r v i)) v (nI i) = some (v, haI h 91 (tkR f0 r v N)) := by
  intro f
  induction f with
  | zero => intro i _ z; omega
  | succ f ih =>
    intro i hi hf
    rw [p207_L86, hI_In (by decide), e12]
    by_cases z : i < N
    · obtain ⟨q1, q2⟩ := hr i z
      rw [if_pos (nI_lt z (by omega)), ldE (g := haI h 91 (tkR f0 r v i)) (r := r) hN hN0 hW hk hkW (by rw [hI_In (by decide)]; exact e12) (by rw [hI_In (by decide)]; exact e13) (fun i hi => by rw [hI_In (by omega)]; exact (hr i hi).1) z, ob, if_neg (nI_in (by omega) (by decide)), nI_clamp (by omega), nI_1, hsI_ha, hI_I, haI_I, tkR_s]
      exact ih (i + 1) (by omega) (by omega)
    · have : i = N := by omega
      subst this
      rw [if_neg Int32.lt_irrefl]
theorem shtC_f (w : 160 ≤ h.1) {n : Nat} {now : Int32} : FR [31, 49] [(32, 2)] nD h (shtC n h now) := by
  unfold shtC shn sqA sq8 sq6 sq4 sq2 sq0
  have nw : ∀ {g : HS} {a k : Nat} {v : Int32}, h.1 ≤ a → FR [31, 49] [(32, 2)] nD h g → FR [31, 49] [(32, 2)] nD h (hsI g a k v) := fun l f => f.sI (Or.inr (Or.inr (Or.inr l)))
  have nr : ∀ {g : HS} {a k : Nat} {v : Option Nat}, h.1 ≤ a → FR [31, 49] [(32, 2)] nD h g → FR [31, 49] [(32, 2)] nD h (hsR g a k v) := fun l f => f.sR (Or.inr (Or.inr l))
  refine FR.sI (FR.sR ?_ (Or.inl (by decide))) (Or.inr (Or.inr (Or.inl (by decide))))
  repeat' first | exact FR.rf nD160 | refine nw (Nat.le_refl _) ?_ | refine nr (Nat.le_refl _) ?_ | refine FR.nw ?_ (by decide)
theorem shtC_o {n : Nat} {now : Int32} : hR (shtC n h now) 49 n = some h.1 := by
  unfold shtC
  rw [hsI_ha, hR_I, hsR_ha, hR_R]
  exact if_pos rfl
theorem shtC_t {n : Nat} {now : Int32} : hT (shtC n h now) h.1 = 9 := by
  unfold shtC
  rw [hsI_ha, hT_I, hsR_ha, hT_R]
  exact shn_OT h (nI n) now
theorem shtM_r {hc : HS} {n : Nat} {now : Int32} {x : Nat} (hx : x < 95 ∧ ¬ x = 86) : hI (shtM n hc now) x = hI hc x := by
  unfold shtM
  rw [hsI_n (by omega), hsI_n (by omega), hsI_n (by omega), hsI_n (by omega)]
theorem shtM_6 {hc : HS} {n : Nat} {now : Int32} {j : Nat} (hj : ¬ j = 14) : hI (shtM n hc now) 86 j = hI hc 86 j := by
  unfold shtM
  rw [hsI_k hj, hsI_n (by decide), hsI_n (by decide), hsI_n (by decide)]
theorem tk_eq {g : HS} {o n N : Nat} {now : Int32} {R : Nat → Int32} (ho : 160 ≤ o) : haI (hsI (shtM n (hsI (haI g 37 R) o 4 (nI N)) now) 98 n (nI N)) 91 R = haI (haI (hsI (hsI (shtM n g now) o 4 (nI N)) 98 n (nI N)) 37 R) 91 R := by
  unfold shtM
  have o1 : ¬ o = 95 := by omega
  have o2 : ¬ o = 96 := by omega
  have o3 : ¬ o = 97 := by omega
  have o4 : ¬ o = 86 := by omega
  have o5 : ¬ o = 98 := by omega
  have o6 : ¬ 37 = o := by omega
  rw [hsIa_c o6, hsIa_c (show ¬ 37 = 95 by decide), hsIa_c (show ¬ 37 = 96 by decide), hsIa_c (show ¬ 37 = 97 by decide), hsIa_c (show ¬ 37 = 86 by decide), hsIa_c (show ¬ 37 = 98 by decide)]
  rw [hsI_c o1, hsI_c o2, hsI_c o3, hsI_c o4]
/-- the class's side -/
def tkC (s : SS) (h : HS) (R : Nat → Int32) : HS := hsI (haI (shtC (s 0 3) h (nI (s 0 0))) 37 R) h.1 4 (nI (s 50 0))
theorem tkC_ok (E : EV s h) (S : SCc s h) {F k o : Nat} {r : Nat → Nat} (hF : 100 ≤ F) (hn : s 0 3 < 200) (hN8 : s 50 0 ≤ 8) (L1 : hI h 39 1 = nI (s 50 0)) (ho : (k = 0 ∧ o = 46) ∨ (k = 1 ∧ o = 47)) (hr : ∀ i, i < s 50 0 → hI h o i = nI (r i) ∧ r i < 200) (e56 : p56 F h (nI k) = some 1) : p122 F h (nI k) = some (nI (s 0 3), tkC s h (tkR (hI h 91) r (nI (s 0 3)) (s 50 0))) := by
  have w1 : 160 ≤ h.1 := E.w.1
  have t46 : hT h 46 = 20 := E.w.t 46 (by decide)
  have t47 : hT h 47 = 20 := E.w.t 47 (by decide)
  have n46 : hN h 46 = 8 := E.w.n 46 (by decide)
  have n47 : hN h 47 = 8 := E.w.n 47 (by decide)
  have fC : FR [31, 49] [(32, 2)] nD h (shtC (s 0 3) h (nI (s 0 0))) := shtC_f w1
  have oC := shtC_o (h := h) (n := s 0 3) (now := nI (s 0 0))
  have tC := shtC_t (h := h) (n := s 0 3) (now := nI (s 0 0))
  have e172 := pm172 w1 hn E.cn.c3 E.cn.c0
  have c37 : hI (shtC (s 0 3) h (nI (s 0 0))) 37 = hI h 91 := (fC.fA w1 37 (by decide)).trans S.2.2.2.1
  unfold tkC
  generalize shtC (s 0 3) h (nI (s 0 0)) = g at *
  have to : hT g o = 20 ∧ hN g o = 8 := by
    rcases ho with ⟨-, rfl⟩ | ⟨-, rfl⟩
    · exact ⟨(fC.T (by omega)).trans t46, (fC.N (by omega)).trans n46⟩
    · exact ⟨(fC.T (by omega)).trans t47, (fC.N (by omega)).trans n47⟩
  have go : hI g o = hI h o := fC.fA w1 o (by rcases ho with ⟨-, rfl⟩ | ⟨-, rfl⟩ <;> decide)
  have L9 := cfL (h := g) (N := s 50 0) (o := o) (r := r) (F := F) (a := nI k) (v := nI (s 0 3)) hN8 (by omega) to ((fC.fI w1 39 1 (by decide)).trans L1) (fun i hi => by rw [go]; exact hr i hi) (hI h 91) F 0 (by omega) (by omega)
  have z0 : haI g 37 (tkR (hI h 91) r (nI (s 0 3)) 0) = g := by
    have : tkR (hI h 91) r (nI (s 0 3)) 0 = hI g 37 := by rw [c37]; rfl
    rw [this, haI_self]
  rw [z0] at L9
  have e57 : p57 F g (nI k) (nI (s 0 3)) = some (nI (s 50 0), haI g 37 (tkR (hI h 91) r (nI (s 0 3)) (s 50 0))) := by
    unfold p57 p55
    rcases ho with ⟨rfl, rfl⟩ | ⟨rfl, rfl⟩
    · rw [if_pos (show nI 0 = 0 from rfl), ob]; exact L9
    · rw [if_neg (show ¬ nI 1 = 0 by decide), ob]; exact L9
  have t2 : hT (haI g 37 (tkR (hI h 91) r (nI (s 0 3)) (s 50 0))) = hT g := hT_I _ _ _
  generalize haI g 37 (tkR (hI h 91) r (nI (s 0 3)) (s 50 0)) = g2 at *
  unfold p122
  rw [E.cn.c3, if_pos (show nI (s 0 3) < 200 from nI_lt (b := 200) (by omega) (by decide)), e56, ob, if_neg n10, e172, ob]
  show (if nI (s 0 3) < 0 ∨ 200 ≤ (nI (s 0 3)).toNatClampNeg then none else Option.bind (p57 F g (nI k) (nI (s 0 3))) fun r8 => Option.bind (hR g 49 (nI (s 0 3)).toNatClampNeg) fun o10 => if hT r8.2 o10 = 9 then some (nI (s 0 3), hsI r8.2 o10 4 r8.1) else none) = _
  rw [nI_clamp (by omega), if_neg (nI_in' (by omega) (by decide)), e57, ob, oC, ob]
  show (if hT g2 h.1 = 9 then some (nI (s 0 3), hsI g2 h.1 4 (nI (s 50 0))) else none) = _
  rw [t2, if_pos tC]
/-- the model's side -/
theorem tkM_ok {hc : HS} {F n N W k : Nat} {now : Int32} {r : Nat → Nat} (hF : 100 ≤ F) (hn : n < 200) (hN : N ≤ 8) (hN0 : 0 < N) (hW : W < 1000000) (hk : k < 2) (hkW : k < W) (k12 : hI hc 86 12 = nI N) (k13 : hI hc 86 13 = nI W) (k14 : hI hc 86 14 = nI n) (k1 : hI hc 86 1 = now) (kr : ∀ i, i < N → hI hc (93 + k) i = nI (r i) ∧ r i < 200) (h4 : ∀ h, p187 h (nI k) 0 1 = some 1) (ha : anyN (fun t => !decide (hI hc 91 (r t) = -1)) N = false) : p207 F hc (nI k) = some (nI n, haI (hsI (shtM n hc now) 98 n (nI N)) 91 (tkR (hI hc 91) r (nI n) N)) := by
  have e38 := mtL (r := r) (F := F) hN hN0 hW hk hkW k12 k13 kr F 0 (by omega) (by omega) rfl
  rw [show nI 0 = 0 from rfl] at e38
  have hf3 : ¬ nI n = 200 := fun z => by have := (nI_eq (b := 200) (by omega) (by decide)).mp z; omega
  have eM := shtM_ok hn k14 k1
  have q6 : ∀ j, ¬ j = 14 → hI (shtM n hc now) 86 j = hI hc 86 j := fun j hj => shtM_6 hj
  have q91 : hI (shtM n hc now) 91 = hI hc 91 := shtM_r (by decide)
  have qr : hI (shtM n hc now) (93 + k) = hI hc (93 + k) := shtM_r (by omega)
  generalize shtM n hc now = g at *
  have L86 := mfL (h := hsI g 98 n (nI N)) (N := N) (W := W) (k := k) (r := r) (F := F) (v := nI n) hN hN0 hW hk hkW (by rw [hsI_n (by decide), q6 12 (by decide), k12]) (by rw [hsI_n (by decide), q6 13 (by decide), k13]) (fun i hi => by rw [hsI_n (by omega), qr]; exact kr i hi) (hI hc 91) F 0 (by omega) (by omega)
  have z0 : haI (hsI g 98 n (nI N)) 91 (tkR (hI hc 91) r (nI n) 0) = hsI g 98 n (nI N) := by
    have : tkR (hI hc 91) r (nI n) 0 = hI (hsI g 98 n (nI N)) 91 := by rw [hsI_n (by decide), q91]; rfl
    rw [this, haI_self]
  rw [z0, show nI 0 = 0 from rfl] at L86
  unfold p207
  rw [k12, k13, if_neg (nI_ne0 hN0 (by omega)), h4, ob, if_neg n10, if_pos (nI_lt hkW (by omega)), k14, if_neg hf3, e38, ha, if_neg (by decide), eM, ob]
  show (if nI n < 0 ∨ 200 ≤ (nI n).toNatClampNeg then none else p207_L86 F (nI k) F (hsI g 98 (nI n).toNatClampNeg (hI g 86 12)) (nI n) 0) = _
  rw [nI_clamp (by omega), if_neg (nI_in' hn (by decide)), q6 12 (by decide), k12]
  exact L86
theorem w_take (E : EV s h) (S : SCc s h) (L : LAc s h) (T : LTr h (s 50 0) (s 50 1) (s 0 2)) {F : Nat} (hF : 100 ≤ F) (a : Int32) : (∃ v, p122 F h a = some (v, h) ∧ p207 F h a = some (v, h)) ∨ ∃ v hc R, s 0 3 < 200 ∧ p122 F h a = some (v, hc) ∧ p207 F hc a = some (v, tkM s h R) ∧ ∀ j, R j = hI h 91 j ∨ R j = nI (s 0 3) := by
  obtain ⟨L1, L2, L3, L4, L5, L6, L7, L8⟩ := L
  have w1 : 160 ≤ h.1 := E.w.1
  have bb2 := E.cn.b2
  have b3 := E.cn.b3
  have c3 := E.cn.c3
  have m3 := E.cn.m3
  have t46 : hT h 46 = 20 := E.w.t 46 (by decide)
  have t47 : hT h 47 = 20 := E.w.t 47 (by decide)
  have n46 : hN h 46 = 8 := E.w.n 46 (by decide)
  have n47 : hN h 47 = 8 := E.w.n 47 (by decide)
  -- refusals
  have ref : (p56 F h a = some 0 ∨ s 0 3 = 200) → p122 F h a = some (-1, h) := by
    intro z
    unfold p122
    rw [c3]
    by_cases y : nI (s 0 3) < 200
    · rcases z with z | z
      · rw [if_pos y, z, ob, if_pos rfl]
      · rw [z] at y; exact absurd y (by decide)
    · rw [if_neg y]
  by_cases hN0 : s 50 0 = 0
  · left
    refine ⟨-1, ref (Or.inl ?_), ?_⟩
    · unfold p56 p54
      rw [L1, hN0, if_neg (show ¬ (0 : Int32) < nI 0 by decide), ob, if_pos rfl]
    · unfold p207
      rw [L2, hN0, if_pos (show nI 0 = 0 from rfl)]
  have hp : (0 : Int32) < nI (s 50 0) := nI_lt (a := 0) (by omega) (by omega)
  rcases rngc a 0 1 with ⟨h3, h4⟩ | ⟨h3, h4, y1, y2⟩
  · left
    refine ⟨-1, ref (Or.inl ?_), ?_⟩
    · unfold p56 p54
      rw [L1, if_pos hp, h3, ob, if_pos rfl, ob, if_pos rfl]
    · unfold p207
      rw [L2, if_neg (nI_ne0 (by omega) (by omega)), h4, ob, if_pos rfl]
  obtain ⟨k, -, hk, rfl⟩ := le_of_nI (m := 0) (n := 1) (by decide) (by decide) y1 y2
  by_cases hkW : k < s 50 1
  case neg =>
    left
    have z : ¬ nI k < nI (s 50 1) := nI_nlt (by omega) (by omega)
    refine ⟨-1, ref (Or.inl ?_), ?_⟩
    · unfold p56 p54
      rw [L1, L4, if_pos hp, h3, ob, if_neg n10, if_neg z, ob, if_pos rfl]
    · unfold p207
      rw [L2, L5, if_neg (nI_ne0 (by omega) (by omega)), h4, ob, if_neg n10, if_neg z]
  have zk : nI k < nI (s 50 1) := nI_lt hkW (by omega)
  obtain ⟨T1, T2⟩ := T
  have hx : ∀ i, i < s 50 0 → hI h 46 i = nI ((hI h 46 i).toNatClampNeg) ∧ (hI h 46 i).toNatClampNeg < s 0 2 := fun i hi => by
    obtain ⟨x, x1, x2⟩ := T1 (by omega) i hi
    rw [x2, nI_clamp (by omega)]
    exact ⟨rfl, x1⟩
  have hy : ∀ i, i < s 50 0 → hI h (46 + k) i = hI h (93 + k) i ∧ hI h (46 + k) i = nI ((hI h (46 + k) i).toNatClampNeg) ∧ (hI h (46 + k) i).toNatClampNeg < s 0 2 := fun i hi => by
    rcases (show k = 0 ∨ k = 1 by omega) with rfl | rfl
    · exact ⟨L7 i hi hkW, hx i hi⟩
    · obtain ⟨j, j1, j2⟩ := (T2 hkW).1 i hi
      refine ⟨L8 i hi hkW, ?_⟩
      show hI h 47 i = nI (hI h 47 i).toNatClampNeg ∧ _
      rw [j2]
      exact hx j j1
  have s37 := S.2.2.2.1
  have anyE : anyN (fun t => !decide (hI h 37 ((hI h 46 t).toNatClampNeg) = -1)) (s 50 0) = anyN (fun t => !decide (hI h 91 ((hI h (46 + k) t).toNatClampNeg) = -1)) (s 50 0) := by
    rw [s37]
    rcases (show k = 0 ∨ k = 1 by omega) with rfl | rfl
    · rfl
    · have a1 : ∀ A B : Bool, (A = true → B = true) → (B = true → A = true) → A = B := by decide
      refine a1 _ _ (fun z => ?_) (fun z => ?_)
      · obtain ⟨i, i1, i2⟩ := anyN_iff.mp z
        obtain ⟨j, j1, j2⟩ := (T2 hkW).2 i i1
        exact anyN_iff.mpr ⟨j, j1, by show (!decide (hI h 91 ((hI h 47 j).toNatClampNeg) = -1)) = true; rw [← j2]; exact i2⟩
      · obtain ⟨i, i1, i2⟩ := anyN_iff.mp z
        obtain ⟨j, j1, j2⟩ := (T2 hkW).1 i i1
        exact anyN_iff.mpr ⟨j, j1, by
          show (!decide (hI h 91 ((hI h 46 j).toNatClampNeg) = -1)) = true
          rw [← j2]; exact i2⟩
  have e56 : p56 F h (nI k) = some (b2 (!anyN (fun t => !decide (hI h 91 ((hI h (46 + k) t).toNatClampNeg) = -1)) (s 50 0))) := by
    unfold p56 p54
    rw [L1, L4, if_pos hp, h3, ob, if_neg n10, if_pos zk, ob, if_neg n10, ← anyE]
    exact ctL (x := fun t => (hI h 46 t).toNatClampNeg) L3 L1 (fun i hi => ⟨(hx i hi).1, by have := (hx i hi).2; omega⟩) F 0 (by omega) (by omega) rfl
  have e38 : p207_L38 F (nI k) F h 0 = _ := mtL (r := fun t => (hI h (46 + k) t).toNatClampNeg) (F := F) L3 (by omega) L6 (show k < 2 by omega) hkW L2 L5 (fun i hi => ⟨(hy i hi).1.symm.trans (hy i hi).2.1, by have := (hy i hi).2.2; omega⟩) F 0 (by omega) (by omega) rfl
  by_cases hf : s 0 3 = 200
  · left
    refine ⟨-1, ref (Or.inr hf), ?_⟩
    unfold p207
    rw [L2, L5, if_neg (nI_ne0 (by omega) (by omega)), h4, ob, if_neg n10, if_pos zk, m3, hf, if_pos (show nI 200 = 200 from rfl)]
  have hf3 : ¬ nI (s 0 3) = 200 := fun z => hf ((nI_eq (b := 200) (by omega) (by decide)).mp z)
  cases ha : anyN (fun t => !decide (hI h 91 ((hI h (46 + k) t).toNatClampNeg) = -1)) (s 50 0)
  case true =>
    left
    refine ⟨-1, ref (Or.inl (by rw [e56, ha]; rfl)), ?_⟩
    unfold p207
    rw [L2, L5, if_neg (nI_ne0 (by omega) (by omega)), h4, ob, if_neg n10, if_pos zk, m3, if_neg hf3, e38, ha, if_pos rfl]
  case false =>
    right
    have e1 : p56 F h (nI k) = some 1 := by rw [e56, ha]; rfl
    have oo : (k = 0 ∧ 46 + k = 46) ∨ (k = 1 ∧ 46 + k = 47) := by omega
    have eC := tkC_ok (F := F) (k := k) (o := 46 + k) (r := fun t => (hI h (46 + k) t).toNatClampNeg) E S hF (by omega) L3 L1 oo (fun i hi => ⟨(hy i hi).2.1, by have := (hy i hi).2.2; omega⟩) e1
    have fC : FR [31, 49] [(32, 2)] nD h (shtC (s 0 3) h (nI (s 0 0))) := shtC_f w1
    have fh : ∀ R, FR [31, 37, 49] [(32, 2)] nD h (tkC s h R) := fun R => ((fC.mo (by decide) (by decide) (fun _ z => z) nD160).aI (Or.inl (by decide))).sI (Or.inr (Or.inr (Or.inr (Nat.le_refl _))))
    refine ⟨nI (s 0 3), _, tkR (hI h 91) (fun t => (hI h (46 + k) t).toNatClampNeg) (nI (s 0 3)) (s 50 0), by omega, eC, ?_, fun j => ?_⟩
    · generalize hR : tkR (hI h 91) (fun t => (hI h (46 + k) t).toNatClampNeg) (nI (s 0 3)) (s 50 0) = R at *
      have k91 : hI (tkC s h R) 91 = hI h 91 := (fh R).fA w1 91 (by decide)
      have eM := tkM_ok (hc := tkC s h R) (F := F) (n := s 0 3) (N := s 50 0) (W := s 50 1) (k := k) (now := nI (s 0 0)) (r := fun t => (hI h (46 + k) t).toNatClampNeg) hF (by omega) L3 (by omega) L6 (by omega) hkW (((fh R).fI w1 86 12 (by decide)).trans L2) (((fh R).fI w1 86 13 (by decide)).trans L5) (((fh R).fI w1 86 14 (by decide)).trans m3) (((fh R).fI w1 86 1 (by decide)).trans E.cn.m0) (fun i hi => by
        have : hI (tkC s h R) (93 + k) = hI h (93 + k) := (fh R).fA w1 (93 + k) (by rcases (show k = 0 ∨ k = 1 by omega) with rfl | rfl <;> decide)
        rw [this]
        exact ⟨(hy i hi).1.symm.trans (hy i hi).2.1, by have := (hy i hi).2.2; omega⟩) h4 (by rw [k91]; exact ha)
      rw [eM, k91, hR]
      unfold tkC
      rw [tk_eq w1]
      unfold tkM sc_scr tkB
      have e30 : st_sheet s h 30 (s 0 3) = h.1 := by
        unfold st_sheet
        rw [u2_ne (by decide)]
        exact if_pos ⟨rfl, rfl⟩
      rw [e30]
    · unfold tkR
      split
      · exact Or.inr rfl
      · exact Or.inl rfl
end TK
