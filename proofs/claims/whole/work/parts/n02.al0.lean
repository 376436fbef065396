/-! the start: all families -/
section ST1
variable {L : Nat} {xs : Nat → Int32}
def s0 : SS := fun _ _ => 0
theorem hbZ : HBI L xs NEV (hb L xs NEV) := hb_I NEV (Nat.le_refl _)
theorem take_N : EVS.take NEV = EVS := List.take_of_length_le (Nat.le_of_eq ev_ck.1)
theorem hb_w : WF (hb L xs NEV) := by
  obtain ⟨⟨i1, i2⟩, ⟨i3, i4⟩, ⟨i5, i6⟩, i7, i8, i9, iA, iB⟩ := hbZ (L := L) (xs := xs)
  have e160 := ev_ck.2.2.1
  rw [e160] at i1 i3 i4 i5
  refine ⟨by omega, i3, fun i hi h1 => i5 i hi h1, fun o k q hq => ?_, fun i hi => i4 i (by omega)⟩
  unfold fz at hq
  rw [Option.map_eq_some_iff] at hq
  obtain ⟨e, he, rfl⟩ := hq
  have hm := List.mem_of_find?_eq_some he
  have hk : e.1 = k := by have := List.find?_some he; simpa using this
  have ho : o < 160 := by
    rcases Nat.lt_or_ge o 160 with z | z
    · exact z
    · have : F0r.getD o [] = [] := by rw [List.getD_eq_getElem?_getD, List.getElem?_eq_none (by show 160 ≤ o; exact z)]; rfl
      rw [this] at hm
      cases hm
  have := List.all_eq_true.mp (List.all_eq_true.mp ev_ck.2.2.2.2 o (List.mem_range.mpr ho)) e hm
  have hin : (1, o, e.1, e.2) ∈ EVS := List.contains_iff_mem.mp this
  have := (i7 (1, o, e.1, e.2) (by rw [take_N]; exact hin) rfl).1
  rw [← hk]
  exact this
theorem hb_0 {i k : Nat} (hi : 32 ≤ i) (hk : ¬ ((i = 32 ∧ k = 1) ∨ (i = 86 ∧ k = 73))) : hI (hb L xs NEV) i k = 0 := (hbZ (L := L) (xs := xs)).2.2.2.2.2.1 i k hi hk
theorem hb_r {i j : Nat} (hi : 32 ≤ i ∧ ¬ i = 32 ∧ ¬ i = 86) (hj : 32 ≤ j ∧ ¬ j = 32 ∧ ¬ j = 86) : hI (hb L xs NEV) i = hI (hb L xs NEV) j := funext fun k => by rw [hb_0 hi.1 (by omega), hb_0 hj.1 (by omega)]
theorem str_ck : (∀ k, k < 21 → (∀ j, j < wln k → (bytS.getD 0 []).getD (wbg k + j) 0 = nI (wch k j) ∧ (bytS.getD (wid k - 2) []).getD j 0 = nI (wch k j)) ∧ tN0.getD (wid k) 0 = wln k ∧ tT0.getD (wid k) 99 = 41 ∧ (k < 20 → (bytS.getD 0 []).getD (wbg k + wln k) 0 = 32)) ∧ (∀ v, v ≤ 8 → ([1, 1, 2, 6, 24, 120, 720, 5040, 40320] : List Int32).getD v 0 = nI (fct v)) := by
  refine ⟨?_, ?_⟩ <;> decide +kernel
theorem AL0 : AL s0 (hb L xs NEV) := by
  have w := hb_w (L := L) (xs := xs)
  obtain ⟨⟨i1, i2⟩, ⟨i3, i4⟩, ⟨i5, i6⟩, i7, i8, i9, iA, iB⟩ := hbZ (L := L) (xs := xs)
  have no : ∀ {i j : Nat} {P : Prop}, i < s0 0 j → P := fun h => absurd h (Nat.not_lt_zero _)
  have r := fun i j hi hj => hb_r (L := L) (xs := xs) (i := i) (j := j) hi hj
  have z := fun i k hi hk => hb_0 (L := L) (xs := xs) (i := i) (k := k) hi hk
  have cnt : CN s0 (hb L xs NEV) := by
    have hz : ∀ j, j < 14 → 32 ≤ (evC j).1 ∧ ¬ (((evC j).1 = 32 ∧ (evC j).2 = 1) ∨ ((evC j).1 = 86 ∧ (evC j).2 = 73)) ∧ ¬ evM j = 73 := by decide
    refine CN_of fun j hj => ?_
    obtain ⟨a, b, c⟩ := hz j hj
    exact ⟨z _ _ a b, z 86 _ (by decide) (by omega), Nat.zero_le _⟩
  have ev : EV s0 (hb L xs NEV) := ⟨w, cnt, fun i hi => no hi, fun i hi => no hi, fun i hi => no hi, fun i hi => no hi⟩
  have di : DI s0 := ⟨fun i j hi => no hi, fun i j hi => no hi, fun i j hi => no hi, fun i j hi => no hi, fun i j hi => no hi, fun i j hi => no hi, fun i j hi => no hi⟩
  have sc : SCc s0 (hb L xs NEV) := ⟨r 34 87 (by decide) (by decide), r 35 88 (by decide) (by decide), r 36 89 (by decide) (by decide), r 37 91 (by decide) (by decide), fun i hi => no hi, fun i hi => no hi⟩
  have la : LAc s0 (hb L xs NEV) := ⟨z 39 1 (by decide) (by decide), z 86 12 (by decide) (by decide), Nat.zero_le _, z 39 4 (by decide) (by decide), z 86 13 (by decide) (by decide), by decide, fun i hi => absurd hi (Nat.not_lt_zero i), fun i hi => absurd hi (Nat.not_lt_zero i)⟩
  have rw' : RWc (hb L xs NEV) := ⟨r 51 109 (by decide) (by decide), r 52 110 (by decide) (by decide), r 74 100 (by decide) (by decide), r 75 101 (by decide) (by decide), r 76 102 (by decide) (by decide), r 69 149 (by decide) (by decide), r 70 150 (by decide) (by decide), r 71 151 (by decide) (by decide), r 73 153 (by decide) (by decide), r 78 154 (by decide) (by decide), r 79 155 (by decide) (by decide)⟩
  have zs : ZSc s0 (hb L xs NEV) := fun i _ => ⟨z 98 i (by decide) (by omega), z 99 i (by decide) (by omega)⟩
  have rd : RDc s0 (hb L xs NEV) := ⟨fun i hi => no hi, fun i _ => ⟨z 143 i (by decide) (by omega), z 144 i (by decide) (by omega)⟩, fun i j hi => no hi⟩
  have ln : LNc s0 (hb L xs NEV) := ⟨fun i hi => no hi, fun i hi => no hi, fun i _ _ j _ r _ => z 146 _ (by decide) (by omega)⟩
  have lw : LWc s0 (hb L xs NEV) := ⟨fun i hi => no hi, fun i j hi => no hi, fun i j hi => no hi⟩
  have of' : OFc s0 (hb L xs NEV) := ⟨fun i hi => no hi, fun i hi => no hi⟩
  have orc : ORc s0 (hb L xs NEV) := ⟨fun i hi => no hi, 0, by decide, z 77 4 (by decide) (by decide), z 86 92 (by decide) (by decide), fun i hi => absurd hi (Nat.not_lt_zero i)⟩
  have e160 := ev_ck.2.2.1
  have sI : ∀ i, 2 ≤ i → i < 24 → ∀ j, hI (hb L xs NEV) i j = (bytS.getD (i - 2) []).getD j 0 := fun i h1 h2 j => by
    rw [i8 i (by omega)]
    unfold xI
    rw [if_neg (by omega), if_neg (by omega)]
  have fa : FAc (hb L xs NEV) := ⟨(i5 0 (by omega) (by decide)).trans (by decide), fun v hv => by
    rw [i8 0 (by decide)]
    exact str_ck.2 v hv⟩
  have st : STc (hb L xs NEV) := by
    refine ⟨fun k hk => ?_, (i5 2 (by omega) (by decide)).trans (by decide)⟩
    obtain ⟨a1, a2, a3, a4⟩ := str_ck.1 k hk
    obtain ⟨w1, w2, w3, w4, w5, w6, w7⟩ := wst_f k hk
    refine ⟨fun j hj => ⟨?_, ?_⟩, ?_, ?_, fun h20 => ?_⟩
    · rw [sI 2 (by decide) (by decide)]; exact (a1 j hj).1
    · rw [sI _ (by omega) w6]; exact (a1 j hj).2
    · rw [i5 _ (by omega) (by omega)]; exact a2
    · rw [i3 _ (by omega)]; exact a3
    · rw [sI 2 (by decide) (by decide)]; exact a4 h20
  have e1 := iA (2, 32, 1, 0) (by rw [take_N]; decide +kernel) rfl
  have e2 := iA (2, 86, 73, 0) (by rw [take_N]; decide +kernel) rfl
  exact ⟨⟨ev, di, sc, la, fun i hi => no hi, rw', zs⟩, ⟨fun h => absurd h (Nat.not_lt_zero _), fun h => absurd h (Nat.not_lt_zero _)⟩, fun i hi => no hi, rd, ln, lw, of', orc, ⟨fa, st⟩, e1.trans e2.symm⟩
end ST1
