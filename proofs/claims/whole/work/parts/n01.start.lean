/-! the start: both objects made, event by event; laid by math/gen_n01.py -/
/-- what lay there before: FACTORIALS, the script, the texts -/
def xI (xs : Nat → Int32) (i k : Nat) : Int32 := if i = 0 then ([1, 1, 2, 6, 24, 120, 720, 5040, 40320] : List Int32).getD k 0 else if i = 1 then xs k else (bytS.getD (i - 2) []).getD k 0
def xN (L i : Nat) : Nat := if i = 1 then L else tN0.getD i 0
def xT (i : Nat) : Nat := if i < 24 then tT0.getD i 99 else 99
def hs0 (L : Nat) (xs : Nat → Int32) : HS := (32, 0, xT, xN L, xI xs, fun _ _ => 0, fun _ _ => none)
abbrev EVT : Type := Nat × Nat × Nat × Nat
def EVS : List EVT := [(0, 11, 16, 0), (2, 32, 1, 0), (0, 8, 7, 0), (0, 20, 20, 0), (1, 33, 2, 34), (0, 20, 200, 0), (1, 33, 3, 35), (0, 20, 200, 0), (1, 33, 4, 36), (0, 20, 200, 0), (1, 33, 5, 37), (0, 23, 200, 0), (1, 33, 6, 38), (1, 32, 5, 33), (0, 3, 14, 0), (0, 20, 8, 0), (1, 39, 5, 40), (0, 20, 8, 0), (1, 39, 6, 41), (0, 20, 8, 0), (1, 39, 7, 42), (0, 20, 8, 0), (1, 39, 8, 43), (0, 20, 9, 0), (1, 39, 9, 44), (0, 20, 8, 0), (1, 39, 10, 45), (0, 20, 8, 0), (1, 39, 11, 46), (0, 20, 8, 0), (1, 39, 12, 47), (0, 20, 8, 0), (1, 39, 13, 48), (1, 39, 0, 33), (1, 32, 6, 39), (0, 24, 200, 0), (1, 32, 7, 49), (0, 0, 11, 0), (0, 20, 40, 0), (1, 50, 5, 51), (0, 20, 32, 0), (1, 50, 6, 52), (0, 27, 400, 0), (1, 50, 7, 53), (0, 27, 200, 0), (1, 50, 8, 54), (0, 27, 200, 0), (1, 50, 9, 55), (0, 23, 200, 0), (1, 50, 10, 56), (1, 32, 8, 50), (0, 10, 5, 0), (0, 20, 400, 0), (1, 57, 1, 58), (0, 20, 401, 0), (1, 57, 3, 59), (0, 20, 401, 0), (1, 57, 4, 60), (1, 32, 9, 57), (0, 2, 11, 0), (0, 20, 12, 0), (1, 61, 7, 62), (0, 20, 12, 0), (1, 61, 8, 63), (0, 20, 12, 0), (1, 61, 9, 64), (0, 20, 400, 0), (1, 61, 10, 65), (1, 61, 0, 59), (1, 61, 1, 60), (1, 32, 10, 61), (0, 25, 20, 0), (1, 32, 11, 66), (0, 26, 30, 0), (1, 32, 12, 67), (0, 4, 9, 0), (0, 20, 60, 0), (1, 68, 1, 69), (0, 20, 60, 0), (1, 68, 2, 70), (0, 20, 60, 0), (1, 68, 3, 71), (0, 20, 60, 0), (1, 68, 4, 72), (0, 22, 60, 0), (1, 68, 5, 73), (0, 20, 60, 0), (1, 68, 6, 74), (0, 20, 60, 0), (1, 68, 7, 75), (0, 20, 60, 0), (1, 68, 8, 76), (1, 32, 13, 68), (0, 7, 10, 0), (0, 20, 12, 0), (1, 77, 2, 78), (0, 20, 12, 0), (1, 77, 3, 79), (0, 20, 9, 0), (1, 77, 5, 80), (0, 20, 9, 0), (1, 77, 6, 81), (0, 20, 512, 0), (1, 77, 7, 82), (0, 20, 512, 0), (1, 77, 8, 83), (0, 23, 512, 0), (1, 77, 9, 84), (1, 77, 0, 33), (1, 32, 14, 77), (0, 23, 11, 0), (1, 32, 15, 85), (0, 12, 99, 0), (0, 20, 20, 0), (1, 86, 4, 87), (0, 20, 200, 0), (1, 86, 5, 88), (0, 20, 200, 0), (1, 86, 6, 89), (0, 20, 800, 0), (1, 86, 7, 90), (0, 20, 200, 0), (1, 86, 8, 91), (0, 20, 8, 0), (1, 86, 9, 92), (0, 20, 8, 0), (1, 86, 10, 93), (0, 20, 8, 0), (1, 86, 11, 94), (0, 20, 200, 0), (1, 86, 15, 95), (0, 20, 200, 0), (1, 86, 16, 96), (0, 20, 200, 0), (1, 86, 17, 97), (0, 20, 200, 0), (1, 86, 18, 98), (0, 20, 200, 0), (1, 86, 19, 99), (0, 20, 60, 0), (1, 86, 22, 100), (0, 20, 60, 0), (1, 86, 23, 101), (0, 20, 60, 0), (1, 86, 24, 102), (0, 20, 400, 0), (1, 86, 25, 103), (0, 20, 400, 0), (1, 86, 26, 104), (0, 20, 400, 0), (1, 86, 27, 105), (0, 20, 400, 0), (1, 86, 28, 106), (0, 20, 400, 0), (1, 86, 29, 107), (0, 20, 400, 0), (1, 86, 30, 108), (0, 20, 40, 0), (1, 86, 34, 109), (0, 20, 32, 0), (1, 86, 35, 110), (0, 20, 200, 0), (1, 86, 36, 111), (0, 20, 200, 0), (1, 86, 37, 112), (0, 20, 200, 0), (1, 86, 38, 113), (0, 20, 200, 0), (1, 86, 39, 114), (0, 20, 200, 0), (1, 86, 40, 115), (0, 20, 200, 0), (1, 86, 41, 116), (0, 20, 200, 0), (1, 86, 42, 117), (0, 20, 200, 0), (1, 86, 43, 118), (0, 20, 200, 0), (1, 86, 44, 119), (0, 20, 200, 0), (1, 86, 45, 120), (0, 20, 200, 0), (1, 86, 46, 121), (0, 20, 200, 0), (1, 86, 47, 122), (0, 20, 200, 0), (1, 86, 48, 123), (0, 20, 200, 0), (1, 86, 49, 124), (0, 22, 60, 0), (1, 86, 50, 125), (0, 21, 400, 0), (1, 86, 51, 126), (0, 20, 20, 0), (1, 86, 59, 127), (0, 20, 20, 0), (1, 86, 60, 128), (0, 20, 240, 0), (1, 86, 61, 129), (0, 20, 240, 0), (1, 86, 62, 130), (0, 20, 240, 0), (1, 86, 63, 131), (0, 20, 240, 0), (1, 86, 64, 132), (0, 20, 8000, 0), (1, 86, 65, 133), (0, 20, 8000, 0), (1, 86, 66, 134), (0, 20, 400, 0), (1, 86, 69, 135), (0, 23, 400, 0), (1, 86, 70, 136), (0, 23, 11, 0), (1, 86, 71, 137), (2, 86, 73, 0), (0, 23, 4000, 0), (1, 86, 74, 138), (0, 20, 4000, 0), (1, 86, 75, 139), (0, 20, 4000, 0), (1, 86, 76, 140), (0, 20, 30, 0), (1, 86, 77, 141), (0, 20, 30, 0), (1, 86, 78, 142), (0, 20, 30, 0), (1, 86, 79, 143), (0, 20, 30, 0), (1, 86, 80, 144), (0, 22, 30, 0), (1, 86, 81, 145), (0, 21, 120000, 0), (1, 86, 82, 146), (0, 22, 60, 0), (1, 86, 83, 147), (0, 22, 200, 0), (1, 86, 84, 148), (0, 20, 60, 0), (1, 86, 86, 149), (0, 20, 60, 0), (1, 86, 87, 150), (0, 20, 60, 0), (1, 86, 88, 151), (0, 20, 60, 0), (1, 86, 89, 152), (0, 22, 60, 0), (1, 86, 90, 153), (0, 20, 12, 0), (1, 86, 93, 154), (0, 20, 12, 0), (1, 86, 94, 155), (0, 20, 9, 0), (1, 86, 95, 156), (0, 20, 9, 0), (1, 86, 96, 157), (0, 20, 9, 0), (1, 86, 97, 158), (0, 23, 512, 0), (1, 86, 98, 159)]
def evA (h : HS) (e : EVT) : HS := if e.1 = 0 then hnew h e.2.1 e.2.2.1 (fun _ => 0) else if e.1 = 1 then hsR h e.2.1 e.2.2.1 (some e.2.2.2) else hsI h e.2.1 e.2.2.1 (-1)
def hb (L : Nat) (xs : Nat → Int32) (j : Nat) : HS := (EVS.take j).foldl evA (hs0 L xs)
def idN (j : Nat) : Nat := 32 + ((EVS.take j).filter (fun e => e.1 == 0)).length
def szN (j : Nat) : Nat := (((EVS.take j).filter (fun e => e.1 == 0)).map (fun e => e.2.2.1)).sum
def okEv (j : Nat) : Bool := let e := EVS.getD j (0, 0, 0, 0); if e.1 = 0 then decide (tT0.getD (idN j) 99 = e.2.1) && decide (tN0.getD (idN j) 0 = e.2.2.1) else if e.1 = 1 then decide (32 ≤ e.2.1) && decide (e.2.1 < idN j) && (EVS.take j).all (fun q => !(q.1 == 1 && q.2.1 == e.2.1 && q.2.2.1 == e.2.2.1)) else decide (e = (2, 32, 1, 0) ∨ e = (2, 86, 73, 0))
def NEV : Nat := 260
theorem ev_ck : EVS.length = NEV ∧ (List.range NEV).all okEv = true ∧ idN NEV = 160 ∧ szN NEV = 165544 ∧ (List.range 160).all (fun o => (F0r.getD o []).all (fun q => EVS.contains (1, o, q.1, q.2))) = true := by
  refine ⟨?_, ?_, ?_, ?_, ?_⟩ <;> decide +kernel
theorem take_s {j : Nat} (hj : j < NEV) : EVS.take (j + 1) = EVS.take j ++ [EVS.getD j (0, 0, 0, 0)] := by
  have hl : j < EVS.length := by rw [ev_ck.1]; exact hj
  rw [List.getD_eq_getElem?_getD, List.getElem?_eq_getElem hl, Option.getD_some, List.take_append_getElem]
section ST0
variable {L : Nat} {xs : Nat → Int32}
theorem hb_s {j : Nat} (hj : j < NEV) : hb L xs (j + 1) = evA (hb L xs j) (EVS.getD j (0, 0, 0, 0)) := by
  unfold hb
  rw [take_s hj, List.foldl_append]
  rfl
theorem id_s {j : Nat} (hj : j < NEV) : idN (j + 1) = idN j + (if (EVS.getD j (0, 0, 0, 0)).1 = 0 then 1 else 0) := by
  unfold idN
  rw [take_s hj, List.filter_append, List.length_append]
  by_cases z : (EVS.getD j (0, 0, 0, 0)).1 = 0
  · rw [if_pos z, List.filter_cons_of_pos (by exact beq_iff_eq.mpr z)]; rfl
  · rw [if_neg z, List.filter_cons_of_neg (by exact fun y => z (beq_iff_eq.mp y))]; rfl
theorem sz_s {j : Nat} (hj : j < NEV) : szN (j + 1) = szN j + (if (EVS.getD j (0, 0, 0, 0)).1 = 0 then (EVS.getD j (0, 0, 0, 0)).2.2.1 else 0) := by
  unfold szN
  rw [take_s hj, List.filter_append, List.map_append, List.sum_append]
  by_cases z : (EVS.getD j (0, 0, 0, 0)).1 = 0
  · rw [if_pos z, List.filter_cons_of_pos (by exact beq_iff_eq.mpr z)]; rfl
  · rw [if_neg z, List.filter_cons_of_neg (by exact fun y => z (beq_iff_eq.mp y))]; rfl
def HBI (L : Nat) (xs : Nat → Int32) (j : Nat) (h : HS) : Prop := (h.1 = idN j ∧ h.2.1 = szN j) ∧ ((∀ i, i < idN j → hT h i = tT0.getD i 99) ∧ ∀ i, idN j ≤ i → hT h i = 99) ∧ ((∀ i, i < idN j → ¬ i = 1 → hN h i = tN0.getD i 0) ∧ hN h 1 = L) ∧ (∀ e, e ∈ EVS.take j → e.1 = 1 → hR h e.2.1 e.2.2.1 = some e.2.2.2 ∧ e.2.1 < idN j) ∧ (∀ i, i < 32 → hI h i = xI xs i) ∧ (∀ i k, 32 ≤ i → ¬ ((i = 32 ∧ k = 1) ∨ (i = 86 ∧ k = 73)) → hI h i k = 0) ∧ (∀ e, e ∈ EVS.take j → e.1 = 2 → hI h e.2.1 e.2.2.1 = -1) ∧ 32 ≤ idN j
theorem hb_I : ∀ j, j ≤ NEV → HBI L xs j (hb L xs j) := by
  intro j
  induction j with
  | zero =>
    intro _
    have t0 : ∀ i, i < 32 → xT i = tT0.getD i 99 := by decide +kernel
    have e0 : hb L xs 0 = hs0 L xs := rfl
    have en : ∀ e, e ∈ EVS.take 0 → False := fun e he => by rw [List.take_zero] at he; cases he
    rw [e0]
    refine ⟨⟨rfl, rfl⟩, ⟨fun i hi => t0 i hi, fun i hi => if_neg (show ¬ i < 24 by have : 32 ≤ i := hi; omega)⟩, ⟨fun i _ h1 => if_neg h1, rfl⟩, fun e he => (en e he).elim, fun i _ => rfl, fun i k hi _ => ?_, fun e he => (en e he).elim, Nat.le_refl _⟩
    show xI xs i k = 0
    unfold xI
    rw [if_neg (by omega), if_neg (by omega)]
    have : bytS.length ≤ 22 := by decide +kernel
    rw [List.getD_eq_getElem?_getD (l := bytS), List.getElem?_eq_none (by omega)]
    rfl
  | succ j ih =>
    intro hj
    have hj' : j < NEV := hj
    obtain ⟨⟨i1, i2⟩, ⟨i3, i4⟩, ⟨i5, i6⟩, i7, i8, i9, iA, iB⟩ := ih (by omega)
    have ok := List.all_eq_true.mp ev_ck.2.1 j (List.mem_range.mpr hj')
    rw [hb_s hj']
    unfold HBI
    rw [id_s hj', sz_s hj', take_s hj']
    unfold okEv at ok
    simp only at ok
    generalize EVS.getD j (0, 0, 0, 0) = e at *
    unfold evA
    by_cases z0 : e.1 = 0
    · rw [if_pos z0, if_pos z0, if_pos z0]
      rw [if_pos z0, Bool.and_eq_true] at ok
      have o1 := of_decide_eq_true ok.1
      have o2 := of_decide_eq_true ok.2
      generalize hb L xs j = h at *
      have ne : ∀ i, i < idN j → ¬ i = h.1 := fun i hi => by omega
      refine ⟨⟨by show h.1 + 1 = _; omega, by show h.2.1 + _ = _; omega⟩, ⟨fun i hi => ?_, fun i hi => ?_⟩, ⟨fun i hi h1 => ?_, ?_⟩, fun q hq h1 => ?_, fun i hi => ?_, fun i k hi hk => ?_, fun q hq h2 => ?_, by omega⟩
      · by_cases y : i = h.1
        · subst y; rw [hT_W, i1, o1]
        · rw [hT_Wn y]; exact i3 i (by omega)
      · rw [hT_Wn (by omega)]; exact i4 i (by omega)
      · by_cases y : i = h.1
        · subst y; rw [hN_W, i1, o2]
        · rw [hN_Wn y]; exact i5 i (by omega) h1
      · rw [hN_Wn (by omega)]; exact i6
      · rcases List.mem_append.mp hq with y | y
        · obtain ⟨a, b⟩ := i7 q y h1
          rw [hR_Wn (ne _ b)]
          exact ⟨a, by omega⟩
        · rw [List.mem_singleton.mp y] at h1; omega
      · rw [hI_Wn (by omega)]; exact i8 i hi
      · by_cases y : i = h.1
        · subst y; rw [hI_W]
        · rw [hI_Wn y]; exact i9 i k hi hk
      · rcases List.mem_append.mp hq with y | y
        · have := iA q y h2
          by_cases w : q.2.1 = h.1
          · exfalso
            have z := i4 q.2.1 (by omega)
            have hz := i9
            -- an event of kind 2 writes into an object that is there
            have hq2 : q = (2, 32, 1, 0) ∨ q = (2, 86, 73, 0) := by
              obtain ⟨a, ha, rfl⟩ := List.mem_take_iff_getElem.mp y
              have hx := List.all_eq_true.mp ev_ck.2.1 a (List.mem_range.mpr (by rw [← ev_ck.1]; omega))
              unfold okEv at hx
              simp only at hx
              have eg : EVS.getD a (0, 0, 0, 0) = EVS[a] := by rw [List.getD_eq_getElem?_getD, List.getElem?_eq_getElem, Option.getD_some]
              rw [eg, if_neg (by omega), if_neg (by omega)] at hx
              exact of_decide_eq_true hx
            have h86 : ∀ j, j < NEV → (2, 86, 73, 0) ∈ EVS.take j → 87 ≤ idN j := by decide +kernel
            rcases hq2 with e1 | e1
            · rw [e1] at w
              have w : 32 = h.1 := w
              have h32 : ∀ j, j < NEV → (2, 32, 1, 0) ∈ EVS.take j → 33 ≤ idN j := by decide +kernel
              have := h32 j hj' (e1 ▸ y)
              omega
            · rw [e1] at w
              have w : 86 = h.1 := w
              have := h86 j hj' (e1 ▸ y)
              omega
          · rw [hI_Wn w]; exact this
        · rw [List.mem_singleton.mp y] at h2; omega
    · by_cases z1 : e.1 = 1
      · rw [if_neg z0, if_pos z1, if_neg z0, if_neg z0]
        rw [if_neg z0, if_pos z1, Bool.and_eq_true, Bool.and_eq_true] at ok
        have o1 := of_decide_eq_true ok.1.1
        have o2 := of_decide_eq_true ok.1.2
        have o3 := List.all_eq_true.mp ok.2
        generalize hb L xs j = h at *
        refine ⟨⟨i1, i2⟩, ⟨i3, i4⟩, ⟨i5, i6⟩, fun q hq h1 => ?_, i8, i9, fun q hq h2 => ?_, iB⟩
        · rcases List.mem_append.mp hq with y | y
          · obtain ⟨a, b⟩ := i7 q y h1
            refine ⟨(if_neg ?_).trans a, b⟩
            rintro ⟨x1, x2⟩
            have := o3 q y
            rw [h1, x1, x2] at this
            simp at this
          · rw [List.mem_singleton.mp y]
            exact ⟨if_pos ⟨rfl, rfl⟩, o2⟩
        · rcases List.mem_append.mp hq with y | y
          · exact iA q y h2
          · rw [List.mem_singleton.mp y] at h2; omega
      · rw [if_neg z0, if_neg z1, if_neg z0, if_neg z0]
        rw [if_neg z0, if_neg z1] at ok
        have o1 := of_decide_eq_true ok
        generalize hb L xs j = h at *
        refine ⟨⟨i1, i2⟩, ⟨i3, i4⟩, ⟨i5, i6⟩, fun q hq h1 => ?_, fun i hi => ?_, fun i k hi hk => ?_, fun q hq h2 => ?_, iB⟩
        · rcases List.mem_append.mp hq with y | y
          · exact i7 q y h1
          · rw [List.mem_singleton.mp y] at h1; omega
        · rw [hsI_n (by rcases o1 with y | y
                        · rw [y]; show ¬ i = 32; omega
                        · rw [y]; show ¬ i = 86; omega)]; exact i8 i hi
        · refine (if_neg ?_).trans (i9 i k hi hk)
          rintro ⟨x1, x2⟩
          apply hk
          rcases o1 with y | y <;> rw [y] at x1 x2
          · exact Or.inl ⟨x1, x2⟩
          · exact Or.inr ⟨x1, x2⟩
        · rcases List.mem_append.mp hq with y | y
          · show u2 (hI h) _ _ _ _ _ = _
            unfold u2
            split
            · rfl
            · exact iA q y h2
          · rw [List.mem_singleton.mp y]; exact if_pos ⟨rfl, rfl⟩
end ST0
