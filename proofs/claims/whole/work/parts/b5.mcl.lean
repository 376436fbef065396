/-! a law's text: the model reads a clause -/
section MCL
variable {T P : Nat → Nat} {m : Nat}
theorem hd_in (hm : T m = 10002) {s s1 : PST} {kd x : Nat} (hs : s.1 ≤ m) (h : aHd T P kd s = Sum.inr (s1, x)) : s.1 ≤ s1.1 ∧ s1.1 ≤ m ∧ s1.2.1 = s.2.1 ∧ s1.2.2 = s.2.2 := by
  unfold aHd at h
  by_cases k2 : kd = 2
  · rw [if_pos k2] at h
    injection h with h
    injection h with h1 h2
    subst h1
    exact ⟨Nat.le_refl _, hs, rfl, rfl⟩
  · rw [if_neg k2] at h
    obtain ⟨⟨s2, y⟩, e1, h⟩ := el_i h
    obtain ⟨s3, e2, h⟩ := el_i h
    injection h with h
    injection h with h1 h2
    subst h1
    have b : s2 = (s.1 + 1, s.2.1, s.2.2) ∧ s.1 < m := by
      by_cases k0 : kd = 0
      · rw [if_pos k0] at e1
        unfold aVb at e1
        by_cases c0 : T s.1 = 10024
        · rw [if_pos c0] at e1
          injection e1 with z; injection z with z1 z2
          exact ⟨z1.symm, lt_m hm hs (by omega)⟩
        · rw [if_neg c0] at e1
          by_cases c1 : T s.1 = 10025
          · rw [if_pos c1] at e1
            injection e1 with z; injection z with z1 z2
            exact ⟨z1.symm, lt_m hm hs (by omega)⟩
          · rw [if_neg c1] at e1
            by_cases c2 : T s.1 = 10026
            · rw [if_pos c2] at e1
              injection e1 with z; injection z with z1 z2
              exact ⟨z1.symm, lt_m hm hs (by omega)⟩
            · rw [if_neg c2] at e1; cases e1
      · rw [if_neg k0] at e1
        unfold aNd at e1
        by_cases c0 : 10000 < T s.1
        · rw [if_pos c0] at e1; cases e1
        · rw [if_neg c0] at e1
          by_cases c1 : 99 < T s.1
          · rw [if_pos c1] at e1; cases e1
          · rw [if_neg c1] at e1
            injection e1 with z; injection z with z1 z2
            exact ⟨z1.symm, lt_m hm hs (by omega)⟩
    obtain ⟨b1, b2'⟩ := b
    subst b1
    unfold aIf at e2
    by_cases c : T (s.1 + 1) = 10027
    · rw [if_pos (show T (s.1 + 1, s.2.1, s.2.2).1 = 10027 from c)] at e2
      injection e2 with e2
      subst e2
      exact ⟨by show s.1 ≤ s.1 + 1 + 1; omega, lt_m hm (show s.1 + 1 ≤ m from b2') (show ¬ T (s.1 + 1) = 10002 by omega), rfl, rfl⟩
    · rw [if_neg (show ¬ T (s.1 + 1, s.2.1, s.2.2).1 = 10027 from c)] at e2; cases e2
variable {n : Nat} {β : Nat → Nat} {l : Nat} {h0 g : HS} {s : PST} {F : Nat} {L : List CLE}
def WTM : List Nat := [128, 129, 130, 131, 132, 133, 134, 135]
def TMo (h0 g : HS) (l : Nat) : Prop := FR WTM MKk nD h0 g ∧ (∀ j, ¬ j = l → hI g 128 j = hI h0 128 j) ∧ (∀ j, j < 12 * l → hI g 129 j = hI h0 129 j ∧ hI g 130 j = hI h0 130 j ∧ hI g 131 j = hI h0 131 j ∧ hI g 132 j = hI h0 132 j) ∧ ∀ j, j < 400 * l → hI g 133 j = hI h0 133 j ∧ hI g 134 j = hI h0 134 j
def TMr (g : HS) (l : Nat) (L : List CLE) : Prop := hI g 128 l = nI L.length ∧ ∀ c, c < L.length → hI g 129 (12 * l + c) = nI (L.getD c (0, 0, 0)).1 ∧ ((L.getD c (0, 0, 0)).1 < 2 → hI g 130 (12 * l + c) = nI (L.getD c (0, 0, 0)).2.1) ∧ hI g 131 (12 * l + c) = nI (lbg L c) ∧ hI g 132 (12 * l + c) = nI (L.getD c (0, 0, 0)).2.2
def TM (n : Nat) (β : Nat → Nat) (l : Nat) (h0 g : HS) (p : Nat) (s : PST) (L : List CLE) : Prop := TMo h0 g l ∧ (∃ S d, MC n β l g g p S s d 0) ∧ TMr g l L
def TME (h0 g : HS) (l e : Nat) : Prop := TMo h0 g l ∧ hI g 86 55 = nI e ∧ 0 < e ∧ e < 100000
theorem TMo.rf : TMo g g l := ⟨FR.rf nD160, fun _ _ => rfl, fun _ _ => ⟨rfl, rfl, rfl, rfl⟩, fun _ _ => ⟨rfl, rfl⟩⟩
theorem TMo.tr {a b c : HS} (x : TMo a b l) (y : TMo b c l) : TMo a c l := by
  obtain ⟨x1, x2, x3, x4⟩ := x
  obtain ⟨y1, y2, y3, y4⟩ := y
  refine ⟨x1.tr y1, fun j hj => (y2 j hj).trans (x2 j hj), fun j hj => ?_, fun j hj => ?_⟩
  · obtain ⟨a1, a2, a3, a4⟩ := x3 j hj
    obtain ⟨b1, b2', b3, b4⟩ := y3 j hj
    exact ⟨b1.trans a1, b2'.trans a2, b3.trans a3, b4.trans a4⟩
  · obtain ⟨a1, a2⟩ := x4 j hj
    obtain ⟨b1, b2'⟩ := y4 j hj
    exact ⟨b1.trans a1, b2'.trans a2⟩
theorem TMo.bg {k0 : Nat} {g' : HS} (w : 160 ≤ g.1) (hk : 12 * l ≤ k0) (b : BGk k0 g g') : TMo g g' l := by
  have f := b.1.1
  refine ⟨f.mo (by decide) (by decide) (fun _ z => z) nD160, fun j _ => by rw [f.fA w 128 (by decide)], fun j hj => ⟨by rw [f.fA w 129 (by decide)], b.2 j (by omega), by rw [f.fA w 131 (by decide)], by rw [f.fA w 132 (by decide)]⟩, fun j _ => by rw [b.1.2.1, b.1.2.2]; exact ⟨rfl, rfl⟩⟩
theorem TMo.mx {g' : HS} (w : 160 ≤ g.1) (x : MCX g g' l) : TMo g g' l := by
  have f := x.1
  exact ⟨f.mo (by decide) (by decide) (fun _ z => z) nD160, fun j _ => by rw [f.fA w 128 (by decide)], fun j hj => ⟨by rw [f.fA w 129 (by decide)], by rw [f.fA w 130 (by decide)], by rw [f.fA w 131 (by decide)], by rw [f.fA w 132 (by decide)]⟩, x.2⟩
theorem TMo.f {k : Nat} {v : Int32} (hk : (86, k) ∈ MKk) : TMo g (hsI g 86 k v) l := by
  have r : ∀ x, ¬ x = 86 → hI (hsI g 86 k v) x = hI g x := fun x hx => hsI_n hx
  refine ⟨(FR.rf nD160).sI (Or.inr (Or.inr (Or.inl hk))), fun j _ => by rw [r 128 (by decide)], fun j _ => ?_, fun j _ => ?_⟩
  · rw [r 129 (by decide), r 130 (by decide), r 131 (by decide), r 132 (by decide)]; exact ⟨rfl, rfl, rfl, rfl⟩
  · rw [r 133 (by decide), r 134 (by decide)]; exact ⟨rfl, rfl⟩
theorem TMo.w {a k : Nat} {v : Int32} (ha : a = 129 ∨ a = 131 ∨ a = 132) (hk : 12 * l ≤ k) : TMo g (hsI g a k v) l := by
  have r : ∀ x, ¬ x = a → hI (hsI g a k v) x = hI g x := fun x hx => hsI_n hx
  have rk : ∀ x j, ¬ j = k → hI (hsI g a k v) x j = hI g x j := by
    intro x j hj
    by_cases z : x = a
    · rw [z, hsI_k hj]
    · rw [r x z]
  refine ⟨(FR.rf nD160).sI (Or.inl (by rcases ha with rfl | rfl | rfl <;> decide)), fun j _ => by rw [r 128 (by omega)], fun j hj => ?_, fun j _ => ?_⟩
  · rw [rk 129 j (by omega), rk 130 j (by omega), rk 131 j (by omega), rk 132 j (by omega)]; exact ⟨rfl, rfl, rfl, rfl⟩
  · rw [r 133 (by omega), r 134 (by omega)]; exact ⟨rfl, rfl⟩
theorem TMo.wl {v : Int32} : TMo g (hsI g 128 l v) l := by
  have r : ∀ x, ¬ x = 128 → hI (hsI g 128 l v) x = hI g x := fun x hx => hsI_n hx
  refine ⟨(FR.rf nD160).sI (Or.inl (by decide)), fun j hj => by rw [hsI_k hj], fun j hj => ?_, fun j _ => ?_⟩
  · rw [r 129 (by decide), r 130 (by decide), r 131 (by decide), r 132 (by decide)]; exact ⟨rfl, rfl, rfl, rfl⟩
  · rw [r 133 (by decide), r 134 (by decide)]; exact ⟨rfl, rfl⟩
/-- how a clause ends -/
theorem j178 {k0 : Nat} (hk : 12 * l ≤ k0 ∧ k0 < 240) (hl : l < 20) (e58 : hI g 86 58 = nI l) : p266_j178 F g (nI k0) = some (hsI (hsI g 132 k0 (hI g 86 67)) 128 l (hI g 128 l + 1)) ∧ TMo g (hsI (hsI g 132 k0 (hI g 86 67)) 128 l (hI g 128 l + 1)) l := by
  have a1 : hI (hsI g 132 k0 (hI g 86 67)) 86 = hI g 86 := hsI_n (by decide)
  have a2 : hI (hsI g 132 k0 (hI g 86 67)) 128 = hI g 128 := hsI_n (by decide)
  refine ⟨?_, (TMo.w (Or.inr (Or.inr rfl)) hk.1).tr TMo.wl⟩
  unfold p266_j178
  rw [nI_clamp (by omega), if_neg (nI_in' hk.2 (by decide)), a1, e58, nI_clamp (by omega), if_neg (nI_in' hl (by decide)), if_neg (nI_in' hl (by decide)), ob, a2]
end MCL
