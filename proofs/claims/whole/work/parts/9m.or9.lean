/-! order: both sides -/
def orAW : List Nat := [80, 81, 82, 83, 84, 156, 157, 158, 159]
def orAK : List (Nat × Nat) := [(77, 4), (77, 1), (86, 92), (86, 91)]
section OR9
variable {s : SS} {h : HS}
theorem w_order (E : EV s h) (S : SCc s h) (O : ORa s h) (R : RWc h) {F : Nat} (hF : 1000 ≤ F) (a : Int32) (x : Int64) : ∃ v h1 h2, p163 F h a x = some (v, h1) ∧ p303 F h1 a x = some (v, h2) ∧ (FR [81, 156] [] nD h h2 ∨ (FR orAW orAK nD h h2 ∧ hI h2 77 1 = 0 ∧ hI h2 86 91 = 0 ∧ ∃ n, n ≤ 9 ∧ hI h2 77 4 = nI n ∧ hI h2 86 92 = nI n ∧ ∀ k, k < n → hI h2 80 k = hI h2 158 k)) := by
  have w := E.w.1
  have b13 := E.cn.b13
  have M : EM s h := ⟨E.cn.m13, E.cn.m1, b13, E.cn.b1, w⟩
  rcases rngN a 1 9 (by decide) (by decide) with ⟨r1, r2⟩ | ⟨r1, r2, n, h1, hn9, rfl⟩
  · refine ⟨-1, h, h, ?_, ?_, Or.inl (FR.rf nD160)⟩
    · unfold p163 p76
      rw [show p166 h a 1 9 = _ from r1 h, ob, if_pos rfl]
      rfl
    · unfold p303
      rw [show p187 h a 1 9 = _ from r2 h, ob, if_pos rfl]
  · obtain ⟨v, g, e1, c⟩ := c_order E S O R h1 hn9 hF x r1
    rcases c with ⟨bad, ev, f⟩ | ⟨good, ev, f, k1, k2, k3⟩
    · obtain ⟨E1, S1, O1, ho, nd, wt⟩ := or_k M S O f (by decide) (by decide) (by decide)
      obtain ⟨v2, g2, e2, c2⟩ := m_order E1 S1 O1 h1 hn9 hF x r2
      have eb : orBad s g x n = orBad s h x n := by unfold orBad nfar; rw [nd]
      rw [eb] at c2
      rcases c2 with ⟨-, ev2, f2⟩ | ⟨z, -⟩
      · refine ⟨v, g, g2, e1, by rw [ev, ← ev2]; exact e2, Or.inl ((f.mo (by decide) (by decide) (fun _ z => z) nD160).tr (f2.mo (by decide) (by decide) (fun _ z => z) nD160))⟩
      · exact absurd bad z
    · obtain ⟨E1, S1, O1, ho, nd, wt⟩ := or_k M S O f (by decide) (by decide) (by decide)
      obtain ⟨v2, g2, e2, c2⟩ := m_order E1 S1 O1 h1 hn9 hF x r2
      have eb : orBad s g x n = orBad s h x n := by unfold orBad nfar; rw [nd]
      have er : ∀ k, orR s g x n k = orR s h x n k := fun k => by unfold orR; rw [ho, nd, wt]
      have evv : orV s g x n = orV s h x n := by unfold orV; rw [ho, nd, wt]
      rw [eb] at c2
      rcases c2 with ⟨z, -⟩ | ⟨-, ev2, f2, m1, m2, m3⟩
      · exact absurd z good
      · have w1 := E1.w
        refine ⟨v, g, g2, e1, by rw [ev, ← evv, ← ev2]; exact e2, Or.inr ⟨(f.mo (by decide) (by decide) (fun _ z => z) nD160).tr (f2.mo (by decide) (by decide) (fun _ z => z) nD160), ?_, m2, n, hn9, ?_, m1, fun k hk => ?_⟩⟩
        · rw [f2.fI w1 77 1 (by decide)]; exact k2
        · rw [f2.fI w1 77 4 (by decide)]; exact k1
        · rw [f2.fA w1 80 (by decide), k3 k hk, m3 k hk, er]
/-- an order that was made: nobody asks any more -/
theorem ev_order (E : EV s h) {h2 : HS} (f : FR orAW orAK nD h h2) (k1 : hI h2 77 1 = 0) (k2 : hI h2 86 91 = 0) : EV (u2 s 0 13 0) h2 := by
  refine E.fx f (X := [13]) (by decide) evD_n (fun r l u => funext fun j => u2_ne (by omega)) (fun j _ m => ?_) (fun j m => ?_)
  · show u2 s 0 13 0 0 j = _
    unfold u2
    rw [if_neg (fun z => m (by rw [z.2]; exact List.mem_singleton.mpr rfl))]
  · obtain rfl := List.mem_singleton.mp m
    have : u2 s 0 13 0 0 13 = 0 := by unfold u2; rw [if_pos ⟨rfl, rfl⟩]
    rw [this]
    exact ⟨k1, k2, Nat.zero_le _⟩
theorem or_order {h2 : HS} {n : Nat} (hn : n ≤ 9) (k1 : hI h2 77 4 = nI n) (k2 : hI h2 86 92 = nI n) (k3 : ∀ k, k < n → hI h2 80 k = hI h2 158 k) : ORc (u2 s 0 13 0) h2 := by
  have : u2 s 0 13 0 0 13 = 0 := by unfold u2; rw [if_pos ⟨rfl, rfl⟩]
  exact ⟨fun a ha => by rw [this] at ha; exact absurd ha (Nat.not_lt_zero a), n, hn, k1, k2, k3⟩
theorem q_ordered (O : ORc s h) (a : Int32) : ∃ v, p164 h a = some v ∧ p304 h a = some v := by
  obtain ⟨-, n, hn, k1, k2, k3⟩ := O
  unfold p164 p75 p304
  rw [k1, k2]
  rcases ixc a n (by omega) with ⟨h1, h2, -⟩ | ⟨i, hi, rfl, h1, h2⟩
  · exact ⟨-1, by rw [h1, ob, if_pos rfl]; rfl, by rw [h2, ob, if_pos rfl]⟩
  · refine ⟨hI h 158 i, ?_, ?_⟩
    · rw [h1, ob, if_neg n10, if_neg (nI_in (by omega) (by decide)), nI_clamp (by omega), k3 i hi]; rfl
    · rw [h2, ob, if_neg n10, if_neg (nI_in (by omega) (by decide)), nI_clamp (by omega)]
end OR9
