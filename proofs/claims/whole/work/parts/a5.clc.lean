/-! a law's text: the class reads clauses, and the text -/
abbrev CLE : Type := Nat × Nat × Nat
def kdO (t : Nat) : Nat := if t = 10021 then 0 else if t = 10022 then 1 else 2
theorem kdO_c {t : Nat} (h : 10021 ≤ t ∧ t ≤ 10023) : t = 10021 + kdO t ∧ kdO t ≤ 2 := by
  rcases (show t = 10021 ∨ t = 10022 ∨ t = 10023 by omega) with rfl | rfl | rfl <;> decide
section CLG
variable (T P : Nat → Nat)
def aVb (s : PST) : Sum Nat (PST × Nat) := if T s.1 = 10024 then Sum.inr ((s.1 + 1, s.2.1, s.2.2), 0) else if T s.1 = 10025 then Sum.inr ((s.1 + 1, s.2.1, s.2.2), 1) else if T s.1 = 10026 then Sum.inr ((s.1 + 1, s.2.1, s.2.2), 2) else Sum.inl (1 + 8 * P s.1 + 0)
def aNd (s : PST) : Sum Nat (PST × Nat) := if 10000 < T s.1 then Sum.inl (1 + 8 * P s.1 + 0) else if 99 < T s.1 then Sum.inl (1 + 8 * P s.1 + 1) else Sum.inr ((s.1 + 1, s.2.1, s.2.2), T s.1)
def aIf (s : PST) : PRS := if T s.1 = 10027 then Sum.inr (s.1 + 1, s.2.1, s.2.2) else flt P s.1 0
def aHd (kd : Nat) (s : PST) : Sum Nat (PST × Nat) := if kd = 2 then Sum.inr (s, 0) else Sum.elim (fun e => Sum.inl e) (fun x => Sum.elim (fun e => Sum.inl e) (fun r => Sum.inr (r, x.2)) (aIf T P x.1)) (if kd = 0 then aVb T P s else aNd T P s)
def aBd (kd : Nat) (s : PST) : PRS := if kd = 2 then aSu T P 11 s else aTe T P 11 s
def aCl (cc : Nat) (s : PST) : Sum Nat (PST × Nat × Nat) := if 10021 ≤ T s.1 ∧ T s.1 ≤ 10023 then (if cc = 12 then Sum.inl (1 + 8 * P s.1 + 4) else Sum.elim (fun e => Sum.inl e) (fun x => Sum.elim (fun e => Sum.inl e) (fun r => Sum.inr (r, kdO (T s.1), x.2)) (aBd T P (kdO (T s.1)) x.1)) (aHd T P (kdO (T s.1)) (s.1 + 1, s.2.1, s.2.2))) else Sum.inl (1 + 8 * P s.1 + 0)
def aTx : Nat → List CLE → PST → Sum Nat (PST × List CLE)
  | 0, _, _ => Sum.inl 0
  | n + 1, L, s => Sum.elim (fun e => Sum.inl e) (fun x => if T x.1.1 = 10002 then Sum.inr (x.1, L ++ [(x.2.1, x.2.2, x.1.2.2.length)]) else if T x.1.1 = 10040 then aTx n (L ++ [(x.2.1, x.2.2, x.1.2.2.length)]) (x.1.1 + 1, x.1.2.1, x.1.2.2) else Sum.inl (1 + 8 * P x.1.1 + 0)) (aCl T P L.length s)
end CLG
def W6 : List Nat := [62, 63, 64, 65]
def K6 : List (Nat × Nat) := [(61, 2), (61, 3), (61, 4), (61, 5), (61, 6)]
def RWL (g : HS) (L : List CLE) : Prop := ∀ c, c < L.length → hI g 62 c = nI (10021 + (L.getD c (0, 0, 0)).1) ∧ hI g 63 c = nI (L.getD c (0, 0, 0)).2.1 ∧ hI g 64 c = nI (L.getD c (0, 0, 0)).2.2
def KT (h0 g : HS) (s : PST) (L : List CLE) : Prop := FR W6 K6 nD h0 g ∧ KC g g s ∧ hI g 61 5 = nI L.length ∧ RWL g L
def KE (h0 g : HS) (e : Nat) : Prop := FR W6 K6 nD h0 g ∧ hI g 61 3 = nI e ∧ 0 < e ∧ e < 100000
section CLC
variable {h0 g : HS} {T P : Nat → Nat} {m F : Nat} {s : PST} {L : List CLE}
theorem TB.fr {W : List Nat} {K : List (Nat × Nat)} {D : Nat → Prop} (B : TB h0 T P m) (w : 160 ≤ h0.1) (f : FR W K D h0 g) (ok : frO [59, 60] W K) : TB g T P m := by
  refine ⟨B.1, B.2.1, fun k hk => ?_⟩
  rw [f.fA w 59 (ok 59 (by decide)), f.fA w 60 (ok 60 (by decide))]
  exact B.2.2 k hk
theorem KC.w (K : KC h0 g s) {a k : Nat} {v : Int32} (ha : a = 62 ∨ a = 63 ∨ a = 64) : KC (hsI g a k v) (hsI g a k v) s := by
  obtain ⟨-, k1, k2, k3, k4, k5⟩ := K
  have e61 : hI (hsI g a k v) 61 = hI g 61 := hsI_n (by omega)
  have e65 : hI (hsI g a k v) 65 = hI g 65 := hsI_n (by omega)
  unfold KC
  rw [e61, e65]
  exact ⟨FR.rf nD160, k1, k2, k3, k4, k5⟩
theorem KC.self (K : KC h0 g s) : KC g g s := ⟨FR.rf nD160, K.2⟩
theorem vbC (B : TB h0 T P m) (w : 160 ≤ h0.1) (hF : 1000 ≤ F) (K : KC h0 g s) (hs : s.1 ≤ m) : ∃ x g', p36 F g = some (x, g') ∧ ((∃ e, aVb T P s = Sum.inl e ∧ KF h0 g' e) ∨ ∃ v, v ≤ 2 ∧ aVb T P s = Sum.inr ((s.1 + 1, s.2.1, s.2.2), v) ∧ x = nI v ∧ KC h0 g' (s.1 + 1, s.2.1, s.2.2) ∧ s.1 < m) := by
  obtain ⟨F', hF'⟩ : ∃ F', F = F' + 4 := ⟨F - 4, by omega⟩
  have lm : ¬ T s.1 = 10002 → s.1 < m := lt_m B.2.1 hs
  have st : ∀ (f v : Nat), v ≤ 2 → p36_L2 F (f + 1) g (nI v) = if T s.1 = 10024 + v then some (nI v, hsI g 61 2 (hI g 61 2 + 1)) else p36_L2 F f g (nI (v + 1)) := by
    intro f v hv
    rw [p36_L2, if_neg (show ¬ (2 : Int32) < nI v from nI_nlt (a := 2) hv (by decide)), show (10024 : Int32) + nI v = nI (10024 + v) from nI_add 10024 v, K.ac B w hs (t := 10024 + v) rfl (by omega)]
    by_cases z : T s.1 = 10024 + v
    · rw [if_pos z, if_pos z, ob, if_neg n10]
    · rw [if_neg z, if_neg z, ob, if_pos rfl, nI_1]
  have e0 : p36 F g = p36_L2 F (F' + 4) g (nI 0) := by unfold p36; rw [← hF']; rfl
  rw [e0, st _ 0 (by decide), st _ 1 (by decide), st _ 2 (by decide)]
  unfold aVb
  by_cases z0 : T s.1 = 10024
  · rw [if_pos z0, if_pos z0]
    exact ⟨_, _, rfl, Or.inr ⟨0, by decide, rfl, rfl, K.at, lm (by omega)⟩⟩
  · rw [if_neg z0, if_neg z0]
    by_cases z1 : T s.1 = 10025
    · rw [if_pos z1, if_pos z1]
      exact ⟨_, _, rfl, Or.inr ⟨1, by decide, rfl, rfl, K.at, lm (by omega)⟩⟩
    · rw [if_neg z1, if_neg z1]
      by_cases z2 : T s.1 = 10026
      · rw [if_pos z2, if_pos z2]
        exact ⟨_, _, rfl, Or.inr ⟨2, by decide, rfl, rfl, K.at, lm (by omega)⟩⟩
      · rw [if_neg z2, if_neg z2]
        obtain ⟨g2, e2, K2⟩ := K.rf B w hs (show (0 : Int32) = nI 0 from rfl) (by decide)
        refine ⟨2, g2, ?_, Or.inl ⟨_, rfl, K2⟩⟩
        rw [p36_L2, if_pos (show (2 : Int32) < nI (2 + 1) by decide), e2, ob]
theorem nedC (B : TB h0 T P m) (w : 160 ≤ h0.1) (K : KC h0 g s) (hs : s.1 ≤ m) : ∃ x g', p37 g = some (x, g') ∧ ((∃ e, aNd T P s = Sum.inl e ∧ KF h0 g' e) ∨ ∃ v, v ≤ 99 ∧ aNd T P s = Sum.inr ((s.1 + 1, s.2.1, s.2.2), v) ∧ x = nI v ∧ KC h0 g' (s.1 + 1, s.2.1, s.2.2) ∧ s.1 < m) := by
  have tk := (B.2.2 s.1 hs).2.1
  unfold p37 aNd
  rw [K.tk B w hs, ob]
  by_cases z0 : 10000 < T s.1
  · rw [if_pos z0, if_pos (show (10000 : Int32) < nI (T s.1) from nI_lt (a := 10000) z0 (by omega))]
    obtain ⟨g2, e2, K2⟩ := K.rf B w hs (show (0 : Int32) = nI 0 from rfl) (by decide)
    rw [e2, ob]
    exact ⟨_, g2, rfl, Or.inl ⟨_, rfl, K2⟩⟩
  · rw [if_neg z0, if_neg (show ¬ (10000 : Int32) < nI (T s.1) from nI_nlt (a := 10000) (by omega) (by decide))]
    by_cases z1 : 99 < T s.1
    · rw [if_pos z1, if_pos (show (99 : Int32) < nI (T s.1) from nI_lt (a := 99) z1 (by omega))]
      obtain ⟨g2, e2, K2⟩ := K.rf B w hs (show (1 : Int32) = nI 1 from rfl) (by decide)
      rw [e2, ob]
      exact ⟨_, g2, rfl, Or.inl ⟨_, rfl, K2⟩⟩
    · rw [if_neg z1, if_neg (show ¬ (99 : Int32) < nI (T s.1) from nI_nlt (a := 99) (by omega) (by decide))]
      exact ⟨_, _, rfl, Or.inr ⟨T s.1, by omega, rfl, rfl, K.at, lt_m B.2.1 hs (by omega)⟩⟩
theorem fr65 (f : FR [65] CK4 nD h0 g) : FR W6 K6 nD h0 g := f.mo (by decide) (by decide) (fun _ z => z) nD160
theorem j147E (w : 160 ≤ h0.1) (f : FR W6 K6 nD h0 g) {e cc : Nat} (e3 : hI g 61 3 = nI e) (he : 0 < e ∧ e < 100000) (e5 : hI g 61 5 = nI cc) (hc : cc < 12) : ∃ g', p35_j147 F g = some g' ∧ KE h0 g' e := by
  have e5' : hI (hsI g 64 cc (hI g 61 6)) 61 5 = nI cc := by rw [hsI_n (by decide)]; exact e5
  refine ⟨hsI (hsI g 64 cc (hI g 61 6)) 61 5 (nI (cc + 1)), ?_, (f.sI (Or.inl (by decide))).sI (Or.inr (Or.inr (Or.inl (by decide)))), by rw [hsI_k (by decide), hsI_n (by decide)]; exact e3, he⟩
  unfold p35_j147
  rw [e5, nI_clamp (by omega), if_neg (nI_in' hc (by decide)), e5', nI_1, ob]
theorem j147K (w : 160 ≤ h0.1) (f : FR W6 K6 nD h0 g) {x kd : Nat} (K : KC h0 g s ∨ ∃ h1, KC h1 g s) (e5 : hI g 61 5 = nI L.length) (hc : L.length < 12) (R : RWL g L) (r62 : hI g 62 L.length = nI (10021 + kd)) (r63 : hI g 63 L.length = nI x) : ∃ g', p35_j147 F g = some g' ∧ KT h0 g' s (L ++ [(kd, x, s.2.2.length)]) := by
  have Ks : KC g g s := by rcases K with K | ⟨h1, K⟩; exact K.self; exact K.self
  obtain ⟨-, k1, k2, k3, k4, k5⟩ := Ks
  have e5' : hI (hsI g 64 L.length (hI g 61 6)) 61 5 = nI L.length := by rw [hsI_n (by decide)]; exact e5
  have ll : (L ++ [(kd, x, s.2.2.length)]).length = L.length + 1 := by rw [List.length_append]; rfl
  refine ⟨hsI (hsI g 64 L.length (hI g 61 6)) 61 5 (nI (L.length + 1)), ?_, (f.sI (Or.inl (by decide))).sI (Or.inr (Or.inr (Or.inl (by decide)))), ⟨FR.rf nD160, ?_, ?_, ?_, ?_, fun j hj => ?_⟩, ?_, fun c hcL => ?_⟩
  · unfold p35_j147
    rw [e5, nI_clamp (by omega), if_neg (nI_in' hc (by decide)), e5', nI_1, ob]
  · rw [hsI_k (by decide), hsI_n (by decide)]; exact k1
  · rw [hsI_k (by decide), hsI_n (by decide)]; exact k2
  · rw [hsI_k (by decide), hsI_n (by decide)]; exact k3
  · rw [hsI_k (by decide), hsI_n (by decide)]; exact k4
  · rw [hsI_n (by decide), hsI_n (by decide)]; exact k5 j hj
  · rw [hsI_s, ll]
  · rw [ll] at hcL
    have a62 : hI (hsI (hsI g 64 L.length (hI g 61 6)) 61 5 (nI (L.length + 1))) 62 = hI g 62 := (hsI_n (by decide)).trans (hsI_n (by decide))
    have a63 : hI (hsI (hsI g 64 L.length (hI g 61 6)) 61 5 (nI (L.length + 1))) 63 = hI g 63 := (hsI_n (by decide)).trans (hsI_n (by decide))
    have a64 : hI (hsI (hsI g 64 L.length (hI g 61 6)) 61 5 (nI (L.length + 1))) 64 = hI (hsI g 64 L.length (hI g 61 6)) 64 := hsI_n (by decide)
    rw [a62, a63, a64]
    by_cases z : c = L.length
    · subst z
      have gl : (L ++ [(kd, x, s.2.2.length)]).getD L.length (0, 0, 0) = (kd, x, s.2.2.length) := by
        rw [List.getD_eq_getElem?_getD, List.getElem?_append_right (Nat.le_refl _), Nat.sub_self]
        rfl
      rw [gl, hsI_s, k4]
      exact ⟨r62, r63, rfl⟩
    · have gl : (L ++ [(kd, x, s.2.2.length)]).getD c (0, 0, 0) = L.getD c (0, 0, 0) := by
        rw [List.getD_eq_getElem?_getD, List.getD_eq_getElem?_getD, List.getElem?_append_left (by omega)]
      rw [gl, hsI_k z]
      exact R c (by omega)
theorem RWL.fr {g' : HS} (w : 160 ≤ g.1) (R : RWL g L) (f : FR [65] CK4 nD g g') : RWL g' L := by
  intro c hc
  rw [f.fA w 62 (by decide), f.fA w 63 (by decide), f.fA w 64 (by decide)]
  exact R c hc
theorem cCl (B : TB h0 T P m) (w : 160 ≤ h0.1) (hF : 1000 ≤ F) (K : KT h0 g s L) (hs : s.1 ≤ m) (hl : s.2.2.length ≤ s.1) (hc : s.2.1 ≤ 80) (hL : L.length ≤ 12) : ∃ g', p35 F g = some g' ∧ ((∃ e, aCl T P L.length s = Sum.inl e ∧ KE h0 g' e) ∨ ∃ r kd x, aCl T P L.length s = Sum.inr (r, kd, x) ∧ KT h0 g' r (L ++ [(kd, x, r.2.2.length)])) := by
  obtain ⟨f0, K, e5, R⟩ := K
  have wg : 160 ≤ g.1 := Nat.le_trans w f0.1
  have Bg := B.fr w f0 (by decide)
  have tk := (B.2.2 s.1 hs).2.1
  have lit : ∀ c, c < 20000 → (nI (T s.1) = nI c ↔ T s.1 = c) := fun c hc => nI_eq (by omega) (by omega)
  unfold p35 aCl
  rw [K.tk Bg wg hs, ob]
  by_cases zv : 10021 ≤ T s.1 ∧ T s.1 ≤ 10023
  case neg =>
    rw [if_neg zv]
    have n1 : ¬ nI (T s.1) = 10021 := fun y => by have := (lit 10021 (by decide)).mp y; omega
    have n2 : ¬ nI (T s.1) = 10022 := fun y => by have := (lit 10022 (by decide)).mp y; omega
    have n3 : ¬ nI (T s.1) = 10023 := fun y => by have := (lit 10023 (by decide)).mp y; omega
    rw [if_neg n1, if_neg n2, if_neg n3]
    obtain ⟨g2, e2, K2⟩ := K.rf Bg wg hs (show (0 : Int32) = nI 0 from rfl) (by decide)
    rw [e2, ob]
    exact ⟨g2, rfl, Or.inl ⟨_, rfl, f0.tr (fr65 K2.1), K2.2.1⟩⟩
  case pos =>
    rw [if_pos zv]
    have hk0 := kdO_c zv
    generalize hk : kdO (T s.1) = kd at *
    obtain ⟨hk1, hk2⟩ := hk0
    have lt : s.1 < m := lt_m B.2.1 hs (by omega)
    have pv : (if nI (T s.1) = 10021 then p35_j34 F g (nI (T s.1)) else if nI (T s.1) = 10022 then p35_j34 F g (nI (T s.1)) else if nI (T s.1) = 10023 then p35_j34 F g (nI (T s.1)) else Option.bind (p32 g 0) fun r6 => some r6) = p35_j34 F g (nI (T s.1)) := by
      rcases (show T s.1 = 10021 ∨ T s.1 = 10022 ∨ T s.1 = 10023 by omega) with z | z | z
      · rw [if_pos (show nI (T s.1) = 10021 by rw [z]; rfl)]
      · rw [if_neg (show ¬ nI (T s.1) = 10021 by rw [z]; decide), if_pos (show nI (T s.1) = 10022 by rw [z]; rfl)]
      · rw [if_neg (show ¬ nI (T s.1) = 10021 by rw [z]; decide), if_neg (show ¬ nI (T s.1) = 10022 by rw [z]; decide), if_pos (show nI (T s.1) = 10023 by rw [z]; rfl)]
    rw [pv]
    unfold p35_j34
    rw [e5]
    by_cases z12 : L.length = 12
    · rw [if_pos z12, if_neg (show ¬ nI L.length < 12 by rw [z12]; decide)]
      obtain ⟨g2, e2, K2⟩ := K.rf Bg wg hs (show (4 : Int32) = nI 4 from rfl) (by decide)
      rw [e2, ob]
      exact ⟨g2, rfl, Or.inl ⟨_, rfl, f0.tr (fr65 K2.1), K2.2.1⟩⟩
    · have hL12 : L.length < 12 := by omega
      have e5a : hI (hsI g 61 2 (hI g 61 2 + 1)) 61 5 = nI L.length := by rw [hsI_k (by decide)]; exact e5
      rw [if_neg z12, if_pos (show nI L.length < 12 from nI_lt (b := 12) hL12 (by decide)), e5a, nI_clamp (n := L.length) (by omega), if_neg (nI_in' hL12 (by decide)), ob]
      have Ka : KC (hsI (hsI g 61 2 (hI g 61 2 + 1)) 62 L.length (nI (T s.1))) (hsI (hsI g 61 2 (hI g 61 2 + 1)) 62 L.length (nI (T s.1))) (s.1 + 1, s.2.1, s.2.2) := K.at.w (Or.inl rfl)
      have fa : FR W6 K6 nD h0 (hsI (hsI g 61 2 (hI g 61 2 + 1)) 62 L.length (nI (T s.1))) := (f0.sI (Or.inr (Or.inr (Or.inl (by decide))))).sI (Or.inl (by decide))
      have r62 : hI (hsI (hsI g 61 2 (hI g 61 2 + 1)) 62 L.length (nI (T s.1))) 62 L.length = nI (10021 + kd) := by rw [hsI_s, hk1]
      have e5b : hI (hsI (hsI g 61 2 (hI g 61 2 + 1)) 62 L.length (nI (T s.1))) 61 5 = nI L.length := by rw [hsI_n (by decide)]; exact e5a
      have Ra : RWL (hsI (hsI g 61 2 (hI g 61 2 + 1)) 62 L.length (nI (T s.1))) L := by
        intro c hcL
        have a1 : hI (hsI (hsI g 61 2 (hI g 61 2 + 1)) 62 L.length (nI (T s.1))) 63 = hI g 63 := (hsI_n (by decide)).trans (hsI_n (by decide))
        have a2 : hI (hsI (hsI g 61 2 (hI g 61 2 + 1)) 62 L.length (nI (T s.1))) 64 = hI g 64 := (hsI_n (by decide)).trans (hsI_n (by decide))
        rw [a1, a2, hsI_k (by omega), hsI_n (by decide)]
        exact R c hcL
      generalize hsI (hsI g 61 2 (hI g 61 2 + 1)) 62 L.length (nI (T s.1)) = g2 at *
      have w2 : 160 ≤ g2.1 := Nat.le_trans w fa.1
      have B2 := B.fr w fa (by decide)
      -- the body, from the header's end
      have body : ∀ (g3 : HS) (r : PST) (x : Nat) (xi : Int32), FR [65] CK4 nD g2 g3 → KC g2 g3 r → r.1 ≤ m → r.2.2.length ≤ r.1 → r.2.1 ≤ 80 → xi = nI x → ∀ X : HS → Option HS, (∀ b : HS, 160 ≤ b.1 → TB b T P m → IMP b m X (aBd T P kd)) → ∃ g', (Option.bind (X (hsI g3 63 L.length xi)) fun r30 => p35_j147 F r30) = some g' ∧ ((∃ e, Sum.elim (fun e => Sum.inl e) (fun r => Sum.inr (r, kd, x)) (aBd T P kd r) = (Sum.inl e : Sum Nat (PST × Nat × Nat)) ∧ KE h0 g' e) ∨ ∃ q k9 y, Sum.elim (fun e => Sum.inl e) (fun r => Sum.inr (r, kd, x)) (aBd T P kd r) = (Sum.inr (q, k9, y) : Sum Nat (PST × Nat × Nat)) ∧ KT h0 g' q (L ++ [(k9, y, q.2.2.length)])) := by
        intro g3 r x xi f3 K3 hr1 hr2 hr3 hxi X hX
        have K4 := K3.w (a := 63) (k := L.length) (v := xi) (Or.inr (Or.inl rfl))
        have f4 : FR W6 K6 nD h0 (hsI g3 63 L.length xi) := (fa.tr (fr65 f3)).sI (Or.inl (by decide))
        have w4 : 160 ≤ (hsI g3 63 L.length xi).1 := Nat.le_trans w f4.1
        have B4 := B.fr w f4 (by decide)
        have e54 : hI (hsI g3 63 L.length xi) 61 5 = nI L.length := by rw [hsI_n (by decide), f3.fI w2 61 5 (by decide)]; exact e5b
        have r63 : hI (hsI g3 63 L.length xi) 63 L.length = nI x := by rw [hsI_s, hxi]
        have r624 : hI (hsI g3 63 L.length xi) 62 L.length = nI (10021 + kd) := by rw [hsI_n (by decide), f3.fA w2 62 (by decide)]; exact r62
        have R4 : RWL (hsI g3 63 L.length xi) L := by
          intro c hcL
          have := (Ra.fr w2 f3) c hcL
          have a1 : hI (hsI g3 63 L.length xi) 62 = hI g3 62 := hsI_n (by decide)
          have a2 : hI (hsI g3 63 L.length xi) 64 = hI g3 64 := hsI_n (by decide)
          rw [a1, a2, hsI_k (by omega)]
          exact this
        generalize hsI g3 63 L.length xi = g4 at *
        obtain ⟨g5, e6, c⟩ := hX g4 w4 B4 g4 r K4 hr1 hr2 hr3
        rw [e6, ob]
        rcases c with ⟨e, ea, Kf⟩ | ⟨q, ea, Kq⟩
        · obtain ⟨g6, e7, K7⟩ := j147E (F := F) w (f4.tr (fr65 Kf.1)) Kf.2.1.1 Kf.2.1.2 ((Kf.1.fI w4 61 5 (by decide)).trans e54) hL12
          rw [ea]
          exact ⟨g6, e7, Or.inl ⟨e, rfl, K7⟩⟩
        · obtain ⟨g6, e7, K7⟩ := j147K (F := F) (L := L) (x := x) (kd := kd) w (f4.tr (fr65 Kq.1)) (Or.inr ⟨g4, Kq⟩) ((Kq.1.fI w4 61 5 (by decide)).trans e54) hL12 (R4.fr w4 Kq.1) (by rw [Kq.1.fA w4 62 (by decide)]; exact r624) (by rw [Kq.1.fA w4 63 (by decide)]; exact r63)
          rw [ea]
          exact ⟨g6, e7, Or.inr ⟨q, _, _, rfl, K7⟩⟩
      -- a header that failed
      have bad : ∀ (g3 : HS) (e : Nat) (xi : Int32), KF g2 g3 e → ¬ nI (T s.1) = 10023 → ∃ g', p35_j108 F g3 (nI (T s.1)) xi (nI L.length) = some g' ∧ KE h0 g' e := by
        intro g3 e xi Kf n3
        have f4 : FR W6 K6 nD h0 (hsI g3 63 L.length xi) := (fa.tr (fr65 Kf.1)).sI (Or.inl (by decide))
        have e34 : hI (hsI g3 63 L.length xi) 61 3 = nI e := by rw [hsI_n (by decide)]; exact Kf.2.1.1
        have n0 : ¬ hI (hsI g3 63 L.length xi) 61 3 = 0 := by rw [e34]; exact nI_ne0 Kf.2.1.2.1 (by have := Kf.2.1.2.2; omega)
        obtain ⟨g6, e7, K7⟩ := j147E (F := F) w f4 e34 Kf.2.1.2 (by rw [hsI_n (by decide), Kf.1.fI w2 61 5 (by decide)]; exact e5b) hL12
        unfold p35_j108
        rw [nI_clamp (by omega), if_neg (nI_in' hL12 (by decide)), if_neg n3]
        have a1 : p33 (hsI g3 63 L.length xi) 10027 = some (0, hsI g3 63 L.length xi) := by unfold p33; rw [if_neg n0]
        have a2 : p32 (hsI g3 63 L.length xi) 0 = some (hsI g3 63 L.length xi) := by unfold p32; rw [if_neg n0]
        rw [a1, ob, if_pos rfl, a2, ob]
        exact ⟨g6, e7, K7⟩
      -- the word if, and the test
      have tst : ∀ (g3 : HS) (r : PST) (x : Nat) (xi : Int32), KC g2 g3 r → r.1 ≤ m → r.2.2.length ≤ r.1 → r.2.1 ≤ 80 → xi = nI x → ¬ nI (T s.1) = 10023 → ¬ kd = 2 → ∃ g', p35_j108 F g3 (nI (T s.1)) xi (nI L.length) = some g' ∧ ((∃ e, Sum.elim (fun e => Sum.inl e) (fun y => Sum.elim (fun e => Sum.inl e) (fun r => Sum.inr (r, kd, y.2)) (aBd T P kd y.1)) (Sum.elim (fun e => Sum.inl e) (fun r => Sum.inr (r, x)) (aIf T P r) : Sum Nat (PST × Nat)) = (Sum.inl e : Sum Nat (PST × Nat × Nat)) ∧ KE h0 g' e) ∨ ∃ q k9 y, Sum.elim (fun e => Sum.inl e) (fun y => Sum.elim (fun e => Sum.inl e) (fun r => Sum.inr (r, kd, y.2)) (aBd T P kd y.1)) (Sum.elim (fun e => Sum.inl e) (fun r => Sum.inr (r, x)) (aIf T P r) : Sum Nat (PST × Nat)) = (Sum.inr (q, k9, y) : Sum Nat (PST × Nat × Nat)) ∧ KT h0 g' q (L ++ [(k9, y, q.2.2.length)])) := by
        intro g3 r x xi K3 hr1 hr2 hr3 hxi n3 nk
        have K4 := K3.w (a := 63) (k := L.length) (v := xi) (Or.inr (Or.inl rfl))
        have f4 : FR W6 K6 nD h0 (hsI g3 63 L.length xi) := (fa.tr (fr65 K3.1)).sI (Or.inl (by decide))
        have w4 : 160 ≤ (hsI g3 63 L.length xi).1 := Nat.le_trans w f4.1
        have B4 := B.fr w f4 (by decide)
        unfold p35_j108
        rw [nI_clamp (by omega), if_neg (nI_in' hL12 (by decide)), if_neg n3, K4.ac B4 w4 hr1 (show (10027 : Int32) = nI 10027 from rfl) (by decide)]
        unfold aIf
        by_cases z : T r.1 = 10027
        · have lr : r.1 < m := lt_m B.2.1 hr1 (by rw [z]; decide)
          rw [if_pos z, if_pos z, ob, if_neg n10]
          have bd := body (hsI g3 61 2 (hI g3 61 2 + 1)) (r.1 + 1, r.2.1, r.2.2) x xi (K3.at).1 K3.at lr (Nat.le_succ_of_le hr2) hr3 hxi (fun h => t38 F h 0) (fun b wb Bb => by
            have := imp_t38 (F := F) (P := P) Bb wb hF
            have e : aBd T P kd = aTe T P 11 := by funext q; unfold aBd; rw [if_neg nk]
            rw [e]; exact this)
          have eh : hsI (hsI g3 61 2 (hI g3 61 2 + 1)) 63 L.length xi = hsI (hsI g3 63 L.length xi) 61 2 (hI (hsI g3 63 L.length xi) 61 2 + 1) := by rw [hsI_c (by decide), hsI_n (by decide)]
          rw [eh] at bd
          simp only [Sum.elim_inr]
          exact bd
        · rw [if_neg z, if_neg z, ob, if_pos rfl]
          obtain ⟨g5, e6, Kf⟩ := K4.rf B4 w4 hr1 (show (0 : Int32) = nI 0 from rfl) (by decide)
          have e54 : hI (hsI g3 63 L.length xi) 61 5 = nI L.length := by rw [hsI_n (by decide), K3.1.fI w2 61 5 (by decide)]; exact e5b
          obtain ⟨g6, e7, K7⟩ := j147E (F := F) w (f4.tr (fr65 Kf.1)) Kf.2.1.1 Kf.2.1.2 ((Kf.1.fI w4 61 5 (by decide)).trans e54) hL12
          rw [e6, ob]
          exact ⟨g6, e7, Or.inl ⟨_, rfl, K7⟩⟩
      unfold aHd
      rcases (show T s.1 = 10021 ∨ T s.1 = 10022 ∨ T s.1 = 10023 by omega) with z | z | z
      · have n3 : ¬ nI (T s.1) = 10023 := by rw [z]; decide
        have nk : ¬ kd = 2 := by omega
        rw [if_neg nk, if_pos (show kd = 0 by omega), if_pos (show nI (T s.1) = 10021 by rw [z]; rfl)]
        obtain ⟨xi, g3, e3, c⟩ := vbC (F := F) (P := P) B2 w2 hF Ka lt
        rw [e3, ob, e5b]
        rcases c with ⟨e, ea, Kf⟩ | ⟨v, hv, ea, hx, K3, hm2⟩
        · obtain ⟨g', y1, y2⟩ := bad g3 e xi Kf n3
          rw [ea]
          exact ⟨g', y1, Or.inl ⟨e, rfl, y2⟩⟩
        · rw [ea]
          exact tst g3 _ v xi K3 hm2 (by show s.2.2.length ≤ s.1 + 1 + 1; omega) hc hx n3 nk
      · have n3 : ¬ nI (T s.1) = 10023 := by rw [z]; decide
        have nk : ¬ kd = 2 := by omega
        rw [if_neg nk, if_neg (show ¬ kd = 0 by omega), if_neg (show ¬ nI (T s.1) = 10021 by rw [z]; decide), if_pos (show nI (T s.1) = 10022 by rw [z]; rfl)]
        obtain ⟨xi, g3, e3, c⟩ := nedC (P := P) B2 w2 Ka lt
        rw [e3, ob, e5b]
        rcases c with ⟨e, ea, Kf⟩ | ⟨v, hv, ea, hx, K3, hm2⟩
        · obtain ⟨g', y1, y2⟩ := bad g3 e xi Kf n3
          rw [ea]
          exact ⟨g', y1, Or.inl ⟨e, rfl, y2⟩⟩
        · rw [ea]
          exact tst g3 _ v xi K3 hm2 (by show s.2.2.length ≤ s.1 + 1 + 1; omega) hc hx n3 nk
      · rw [if_pos (show kd = 2 by omega), if_neg (show ¬ nI (T s.1) = 10021 by rw [z]; decide), if_neg (show ¬ nI (T s.1) = 10022 by rw [z]; decide), e5b]
        unfold p35_j108
        rw [nI_clamp (by omega), if_neg (nI_in' hL12 (by decide)), if_pos (show nI (T s.1) = 10023 by rw [z]; rfl)]
        simp only [Sum.elim_inr]
        exact body g2 (s.1 + 1, s.2.1, s.2.2) 0 0 (FR.rf nD160) Ka lt (Nat.le_succ_of_le hl) hc rfl (fun h => t40 F h 0) (fun b wb Bb => by
          have := imp_t40 (F := F) (P := P) Bb wb hF 10 (by decide)
          have e : aBd T P kd = aSu T P 11 := by funext q; unfold aBd; rw [if_pos (show kd = 2 by omega)]
          rw [e]; exact this)
end CLC
