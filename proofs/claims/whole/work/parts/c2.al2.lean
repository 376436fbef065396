/-! the first calls keep all -/
theorem FR.aG {W : List Nat} {K : List (Nat × Nat)} {D : Nat → Prop} {h0 h : HS} (f : FR W K D h0 h) {a j : Nat} {v : Int32} {r : Nat → Int32} (hK : (a, j) ∈ K) (hr : ∀ k, ¬ (a, k) ∈ K → r k = hI h0 a k) : FR W K D h0 (haI h a (u1 r j v)) := by
  obtain ⟨f1, f2, f3, f4⟩ := f
  refine ⟨f1, f2, f3, fun x hx => ?_⟩
  obtain ⟨x1, x2, x3⟩ := f4 x hx
  refine ⟨x1, x2, fun n1 n2 => ?_⟩
  obtain ⟨u1', u2', u3⟩ := x3 n1 n2
  refine ⟨u1', u2', fun k hk => ?_⟩
  by_cases z : x = a
  · subst z
    rw [hI_I]
    by_cases y : k = j
    · subst y; exact absurd hK hk
    · rw [u1_ne y]; exact hr k hk
  · rw [hI_In z]; exact u3 k hk
section AL2
variable {s : SS} {h : HS} {F : Nat}
theorem fr_clock (E : EV s h) {n : Nat} : FR [] [(32, 0), (86, 1)] nD h (sc_clock h n) := by
  have w1 : 160 ≤ h.1 := E.w.1
  have f0 : FR [] [(32, 0), (86, 1)] nD h h := FR.rf nD160
  unfold sc_clock
  repeat' first | refine FR.aI ?_ (Or.inl (by decide)) | refine FR.aI ?_ (Or.inr (Or.inl rfl)) | refine FR.aG ?_ (by decide) (fun _ _ => rfl) | exact f0
theorem fr_premium (E : EV s h) {n m : Nat} : FR [52, 110] [] nD h (sc_premium h n m) := by
  have w1 : 160 ≤ h.1 := E.w.1
  have f0 : FR [52, 110] [] nD h h := FR.rf nD160
  unfold sc_premium
  repeat' first | refine FR.aI ?_ (Or.inl (by decide)) | refine FR.aI ?_ (Or.inr (Or.inl rfl)) | refine FR.aG ?_ (by decide) (fun _ _ => rfl) | exact f0
theorem fr_person (E : EV s h) {a : Int32} : FR [74, 75, 100, 101] [(50, 0), (86, 20)] nD h (sc_person s h a) := by
  have w1 : 160 ≤ h.1 := E.w.1
  have f0 : FR [74, 75, 100, 101] [(50, 0), (86, 20)] nD h h := FR.rf nD160
  unfold sc_person
  repeat' first | refine FR.aI ?_ (Or.inl (by decide)) | refine FR.aI ?_ (Or.inr (Or.inl rfl)) | refine FR.aG ?_ (by decide) (fun _ _ => rfl) | exact f0
theorem fr_cover (E : EV s h) {n : Nat} : FR [51, 109] [(50, 1), (86, 31)] nD h (sc_cover s h n) := by
  have w1 : 160 ≤ h.1 := E.w.1
  have f0 : FR [51, 109] [(50, 1), (86, 31)] nD h h := FR.rf nD160
  unfold sc_cover
  repeat' first | refine FR.aI ?_ (Or.inl (by decide)) | refine FR.aI ?_ (Or.inr (Or.inl rfl)) | refine FR.aG ?_ (by decide) (fun _ _ => rfl) | exact f0
theorem fr_unsee (E : EV s h) {w : Nat} (hw : w < s 0 5) : FR [108] [] (fun x => x = s 31 w) h (sc_unsee s h w) := by
  have w1 : 160 ≤ h.1 := E.w.1
  have lo := E.sn.lo hw
  have f0 : FR [108] [] (fun x => x = s 31 w) h h := FR.rf (fun x z => by rw [z]; exact lo)
  unfold sc_unsee
  repeat' first | refine FR.aI ?_ (Or.inl (by decide)) | refine FR.aI ?_ (Or.inr (Or.inl rfl)) | refine FR.aG ?_ (by decide) (fun _ _ => rfl) | exact f0
theorem fr_fall (E : EV s h) {w : Nat} (hw : w < s 0 7) : FR [119] [] (fun x => x = s 32 w) h (sc_fall s h w) := by
  have w1 : 160 ≤ h.1 := E.w.1
  have lo := E.rp.lo hw
  have f0 : FR [119] [] (fun x => x = s 32 w) h h := FR.rf (fun x z => by rw [z]; exact lo)
  unfold sc_fall
  repeat' first | refine FR.aI ?_ (Or.inl (by decide)) | refine FR.aI ?_ (Or.inr (Or.inl rfl)) | refine FR.aG ?_ (by decide) (fun _ _ => rfl) | exact f0
theorem fr_open (E : EV s h) {w : Nat} (hw : w < s 0 3) : FR [96] [] (fun x => x = s 30 w) h (sc_open s h w) := by
  have w1 : 160 ≤ h.1 := E.w.1
  have lo := E.sh.lo hw
  have f0 : FR [96] [] (fun x => x = s 30 w) h h := FR.rf (fun x z => by rw [z]; exact lo)
  unfold sc_open
  repeat' first | refine FR.aI ?_ (Or.inl (by decide)) | refine FR.aI ?_ (Or.inr (Or.inl rfl)) | refine FR.aG ?_ (by decide) (fun _ _ => rfl) | exact f0
theorem fr_seen (E : EV s h) {q pl f t : Nat} : FR [31, 53, 103, 104, 105, 106, 107, 108] [(50, 2), (86, 21)] nD h (sc_seenM (s 0 5) (sc_seenC (s 0 5) h (nI q) (nI pl) (nI f) (nI t) (nI (s 0 0))) (nI q) (nI pl) (nI f) (nI t) (nI (s 0 0))) := by
  have w1 : 160 ≤ h.1 := E.w.1
  have f0 : FR [31, 53, 103, 104, 105, 106, 107, 108] [(50, 2), (86, 21)] nD h h := FR.rf nD160
  unfold sc_seenM sc_seenC pap
  repeat' first | refine FR.sI ?_ (Or.inl (by decide)) | refine FR.sI ?_ (Or.inr (Or.inr (Or.inl (by decide)))) | refine FR.sI ?_ (Or.inr (Or.inl rfl)) | refine FR.sI ?_ (Or.inr (Or.inr (Or.inr (Nat.le_refl _)))) | refine FR.sR ?_ (Or.inl (by decide)) | refine FR.sR ?_ (Or.inr (Or.inr (Nat.le_refl _))) | refine FR.nw ?_ (by decide) | exact f0
theorem fr_report (E : EV s h) {w c p act pl d wr : Nat} (hw : w < s 0 3) : FR [31, 54, 111, 112, 113, 114, 115, 116, 117, 118, 119] [(50, 3), (86, 32)] (fun x => x = s 30 w) h (repM (s 0 7) (repC (s 0 7) h (s 30 w) (nI c) (nI p) (nI act) (nI pl) (nI d) (nI wr) (nI (s 0 0))) (nI w) (nI c) (nI p) (nI act) (nI pl) (nI d) (nI wr) (nI (s 0 0))) := by
  have w1 : 160 ≤ h.1 := E.w.1
  have lo := E.sh.lo hw
  have f0 : FR [31, 54, 111, 112, 113, 114, 115, 116, 117, 118, 119] [(50, 3), (86, 32)] (fun x => x = s 30 w) h h := FR.rf (fun x z => by rw [z]; exact lo)
  unfold repM repC pap
  repeat' first | refine FR.sI ?_ (Or.inl (by decide)) | refine FR.sI ?_ (Or.inr (Or.inr (Or.inl (by decide)))) | refine FR.sI ?_ (Or.inr (Or.inl rfl)) | refine FR.sI ?_ (Or.inr (Or.inr (Or.inr (Nat.le_refl _)))) | refine FR.sR ?_ (Or.inl (by decide)) | refine FR.sR ?_ (Or.inr (Or.inr (Nat.le_refl _))) | refine FR.nw ?_ (by decide) | exact f0
theorem fr_bill (E : EV s h) {w c co d : Nat} (hw : w < s 0 3) : FR [31, 55, 120, 121, 122, 123, 124] [(50, 4), (86, 33)] (fun x => x = s 30 w) h (bilM (s 0 8) (bilC (s 0 8) h (s 30 w) (nI c) (nI co) (nI d) (nI (s 0 0))) (nI w) (nI c) (nI co) (nI d) (nI (s 0 0))) := by
  have w1 : 160 ≤ h.1 := E.w.1
  have lo := E.sh.lo hw
  have f0 : FR [31, 55, 120, 121, 122, 123, 124] [(50, 4), (86, 33)] (fun x => x = s 30 w) h h := FR.rf (fun x z => by rw [z]; exact lo)
  unfold bilM bilC pap
  repeat' first | refine FR.sI ?_ (Or.inl (by decide)) | refine FR.sI ?_ (Or.inr (Or.inr (Or.inl (by decide)))) | refine FR.sI ?_ (Or.inr (Or.inl rfl)) | refine FR.sI ?_ (Or.inr (Or.inr (Or.inr (Nat.le_refl _)))) | refine FR.sR ?_ (Or.inl (by decide)) | refine FR.sR ?_ (Or.inr (Or.inr (Nat.le_refl _))) | refine FR.nw ?_ (by decide) | exact f0
theorem fr_finding (E : EV s h) {a b c : Int32} : FR [69, 70, 71, 72, 149, 150, 151, 152] [(68, 0), (86, 85)] nD h (fndM (s 0 11) (fndC (s 0 11) h a b c) a b c) := by
  have w1 : 160 ≤ h.1 := E.w.1
  have f0 : FR [69, 70, 71, 72, 149, 150, 151, 152] [(68, 0), (86, 85)] nD h h := FR.rf nD160
  unfold fndM fndC
  exact (((((((((f0.sI (Or.inl (by decide))).sI (Or.inl (by decide))).sI (Or.inl (by decide))).sI (Or.inl (by decide))).sI (Or.inr (Or.inr (Or.inl (by decide))))).sI (Or.inl (by decide))).sI (Or.inl (by decide))).sI (Or.inl (by decide))).sI (Or.inl (by decide))).sI (Or.inr (Or.inr (Or.inl (by decide))))
theorem fr_asker (E : EV s h) {a b : Int32} : FR [78, 79, 154, 155] [(77, 1), (86, 91)] nD h (askM (s 0 13) (askC (s 0 13) h a b) a b) := by
  have w1 : 160 ≤ h.1 := E.w.1
  have f0 : FR [78, 79, 154, 155] [(77, 1), (86, 91)] nD h h := FR.rf nD160
  unfold askM askC
  repeat' first | refine FR.sI ?_ (Or.inl (by decide)) | refine FR.sI ?_ (Or.inr (Or.inr (Or.inl (by decide)))) | refine FR.sI ?_ (Or.inr (Or.inl rfl)) | refine FR.sI ?_ (Or.inr (Or.inr (Or.inr (Nat.le_refl _)))) | refine FR.sR ?_ (Or.inl (by decide)) | refine FR.sR ?_ (Or.inr (Or.inr (Nat.le_refl _))) | refine FR.nw ?_ (by decide) | exact f0
theorem fr_end (E : EV s h) {n : Nat} : FR [] [(57, 0), (86, 52)] nD h (sc_end h n) := by
  have w1 : 160 ≤ h.1 := E.w.1
  have f0 : FR [] [(57, 0), (86, 52)] nD h h := FR.rf nD160
  unfold sc_end
  repeat' first | refine FR.aI ?_ (Or.inl (by decide)) | refine FR.aI ?_ (Or.inr (Or.inl rfl)) | refine FR.aG ?_ (by decide) (fun _ _ => rfl) | exact f0
theorem fr_appeal (E : EV s h) {i : Nat} {b c : Int32} : FR [72, 73, 152, 153] [] nD h (appM (appC h i b c) i b c) := by
  have w1 : 160 ≤ h.1 := E.w.1
  have f0 : FR [72, 73, 152, 153] [] nD h h := FR.rf nD160
  unfold appM appC
  by_cases z : b = 0
  · rw [if_pos z, if_pos z]
    repeat' first | refine FR.sI ?_ (Or.inl (by decide)) | refine FR.sI ?_ (Or.inr (Or.inr (Or.inl (by decide)))) | refine FR.sI ?_ (Or.inr (Or.inl rfl)) | refine FR.sI ?_ (Or.inr (Or.inr (Or.inr (Nat.le_refl _)))) | refine FR.sR ?_ (Or.inl (by decide)) | refine FR.sR ?_ (Or.inr (Or.inr (Nat.le_refl _))) | refine FR.nw ?_ (by decide) | exact f0
  · rw [if_neg z, if_neg z]
    repeat' first | refine FR.sI ?_ (Or.inl (by decide)) | refine FR.sI ?_ (Or.inr (Or.inr (Or.inl (by decide)))) | refine FR.sI ?_ (Or.inr (Or.inl rfl)) | refine FR.sI ?_ (Or.inr (Or.inr (Or.inr (Nat.le_refl _)))) | refine FR.sR ?_ (Or.inl (by decide)) | refine FR.sR ?_ (Or.inr (Or.inr (Nat.le_refl _))) | refine FR.nw ?_ (by decide) | exact f0
theorem fr_sack (E : EV s h) {n : Nat} : FR [34, 87] [(33, 0), (86, 2)] nD h (sc_sack s h n) := by
  have w1 : 160 ≤ h.1 := E.w.1
  have f0 : FR [34, 87] [(33, 0), (86, 2)] nD h h := FR.rf nD160
  unfold sc_sack
  repeat' first | refine FR.aI ?_ (Or.inl (by decide)) | refine FR.aI ?_ (Or.inr (Or.inl rfl)) | refine FR.aG ?_ (by decide) (fun _ _ => rfl) | exact f0
theorem fr_scrap (E : EV s h) {i j : Nat} {x : Int64} : FR [35, 36, 37, 38, 88, 89, 90, 91] [(33, 1), (86, 3)] nD h (sc_scrap s h i j x) := by
  have w1 : 160 ≤ h.1 := E.w.1
  have f0 : FR [35, 36, 37, 38, 88, 89, 90, 91] [(33, 1), (86, 3)] nD h h := FR.rf nD160
  unfold sc_scrap scrM scrC
  exact ((((((((((f0.sI (Or.inl (by decide))).sI (Or.inl (by decide))).sI (Or.inl (by decide))).sL (Or.inl (by decide))).sI (Or.inr (Or.inr (Or.inl (by decide))))).sI (Or.inl (by decide))).sI (Or.inl (by decide))).aI (Or.inl (by decide))).sI (Or.inl (by decide))).sI (Or.inr (Or.inr (Or.inl (by decide)))))
theorem nS_clock {n : Nat} : anS s (u2 s 0 0 n) := by
  refine ⟨?_, ?_, ?_, ?_, ?_, ?_, ?_, ?_, ?_, ?_, ?_, fun r hr => ?_⟩
  all_goals first | rfl | exact Nat.le_refl _ | (simp (disch := omega) only [u2_u, u2_ne, u1_ne, u1_eq, u2_rowne, Nat.le_refl]; done) | (simp (disch := omega) only [u2_u, u2_ne, u1_ne, u1_eq, u2_rowne]; omega)
theorem nS_premium  : anS s (s) := by
  refine ⟨?_, ?_, ?_, ?_, ?_, ?_, ?_, ?_, ?_, ?_, ?_, fun r hr => ?_⟩
  all_goals first | rfl | exact Nat.le_refl _ | (simp (disch := omega) only [u2_u, u2_ne, u1_ne, u1_eq, u2_rowne, Nat.le_refl]; done) | (simp (disch := omega) only [u2_u, u2_ne, u1_ne, u1_eq, u2_rowne]; omega)
theorem nS_cover  : anS s (u2 s 0 6 (s 0 6 + 1)) := by
  refine ⟨?_, ?_, ?_, ?_, ?_, ?_, ?_, ?_, ?_, ?_, ?_, fun r hr => ?_⟩
  all_goals first | rfl | exact Nat.le_refl _ | (simp (disch := omega) only [u2_u, u2_ne, u1_ne, u1_eq, u2_rowne, Nat.le_refl]; done) | (simp (disch := omega) only [u2_u, u2_ne, u1_ne, u1_eq, u2_rowne]; omega)
theorem nS_unsee {w : Nat} : anS s (u2 s 11 w (s 0 0)) := by
  refine ⟨?_, ?_, ?_, ?_, ?_, ?_, ?_, ?_, ?_, ?_, ?_, fun r hr => ?_⟩
  all_goals first | rfl | exact Nat.le_refl _ | (simp (disch := omega) only [u2_u, u2_ne, u1_ne, u1_eq, u2_rowne, Nat.le_refl]; done) | (simp (disch := omega) only [u2_u, u2_ne, u1_ne, u1_eq, u2_rowne]; omega)
theorem nS_fall {w : Nat} : anS s (u2 s 20 w (s 0 0)) := by
  refine ⟨?_, ?_, ?_, ?_, ?_, ?_, ?_, ?_, ?_, ?_, ?_, fun r hr => ?_⟩
  all_goals first | rfl | exact Nat.le_refl _ | (simp (disch := omega) only [u2_u, u2_ne, u1_ne, u1_eq, u2_rowne, Nat.le_refl]; done) | (simp (disch := omega) only [u2_u, u2_ne, u1_ne, u1_eq, u2_rowne]; omega)
theorem nS_open {w : Nat} : anS s (u2 s 2 w (s 0 0)) := by
  refine ⟨?_, ?_, ?_, ?_, ?_, ?_, ?_, ?_, ?_, ?_, ?_, fun r hr => ?_⟩
  all_goals first | rfl | exact Nat.le_refl _ | (simp (disch := omega) only [u2_u, u2_ne, u1_ne, u1_eq, u2_rowne, Nat.le_refl]; done) | (simp (disch := omega) only [u2_u, u2_ne, u1_ne, u1_eq, u2_rowne]; omega)
theorem nS_seen {q pl f t : Nat} : anS s (st_seen s h q pl f t) := by
  unfold st_seen
  refine ⟨?_, ?_, ?_, ?_, ?_, ?_, ?_, ?_, ?_, ?_, ?_, fun r hr => ?_⟩
  all_goals first | rfl | exact Nat.le_refl _ | (simp (disch := omega) only [u2_u, u2_ne, u1_ne, u1_eq, u2_rowne, Nat.le_refl]; done) | (simp (disch := omega) only [u2_u, u2_ne, u1_ne, u1_eq, u2_rowne]; omega)
theorem nS_report {w c p act pl d wr : Nat} : anS s (st_report s h w c p act pl d wr) := by
  unfold st_report
  refine ⟨?_, ?_, ?_, ?_, ?_, ?_, ?_, ?_, ?_, ?_, ?_, fun r hr => ?_⟩
  all_goals first | rfl | exact Nat.le_refl _ | (simp (disch := omega) only [u2_u, u2_ne, u1_ne, u1_eq, u2_rowne, Nat.le_refl]; done) | (simp (disch := omega) only [u2_u, u2_ne, u1_ne, u1_eq, u2_rowne]; omega)
theorem nS_bill {w c co : Nat} : anS s (st_bill s h w c co) := by
  unfold st_bill
  refine ⟨?_, ?_, ?_, ?_, ?_, ?_, ?_, ?_, ?_, ?_, ?_, fun r hr => ?_⟩
  all_goals first | rfl | exact Nat.le_refl _ | (simp (disch := omega) only [u2_u, u2_ne, u1_ne, u1_eq, u2_rowne, Nat.le_refl]; done) | (simp (disch := omega) only [u2_u, u2_ne, u1_ne, u1_eq, u2_rowne]; omega)
theorem nS_end {n : Nat} (hn : n ≤ s 0 12) : anS s (u2 s 0 12 n) := by
  refine ⟨?_, ?_, ?_, ?_, ?_, ?_, ?_, ?_, ?_, ?_, ?_, fun r hr => ?_⟩
  all_goals first | rfl | exact Nat.le_refl _ | (simp (disch := omega) only [u2_u, u2_ne, u1_ne, u1_eq, u2_rowne, Nat.le_refl]; done) | (simp (disch := omega) only [u2_u, u2_ne, u1_ne, u1_eq, u2_rowne]; omega)
theorem nS_sack  : anS s (u2 s 0 1 (s 0 1 + 1)) := by
  refine ⟨?_, ?_, ?_, ?_, ?_, ?_, ?_, ?_, ?_, ?_, ?_, fun r hr => ?_⟩
  all_goals first | rfl | exact Nat.le_refl _ | (simp (disch := omega) only [u2_u, u2_ne, u1_ne, u1_eq, u2_rowne, Nat.le_refl]; done) | (simp (disch := omega) only [u2_u, u2_ne, u1_ne, u1_eq, u2_rowne]; omega)
theorem nS_scrap  : anS s (u2 s 0 2 (s 0 2 + 1)) := by
  refine ⟨?_, ?_, ?_, ?_, ?_, ?_, ?_, ?_, ?_, ?_, ?_, fun r hr => ?_⟩
  all_goals first | rfl | exact Nat.le_refl _ | (simp (disch := omega) only [u2_u, u2_ne, u1_ne, u1_eq, u2_rowne, Nat.le_refl]; done) | (simp (disch := omega) only [u2_u, u2_ne, u1_ne, u1_eq, u2_rowne]; omega)
theorem nS_tear {i : Nat} : anS s (st_tear s i) := by
  have e0 := st_tear_ne (s := s) (i := i) (r := 0) (by decide) (by decide) (by decide)
  unfold anS
  rw [e0, st_tear_ne (r := 5) (by decide) (by decide) (by decide), st_tear_ne (r := 30) (by decide) (by decide) (by decide)]
  exact ⟨Nat.le_refl _, Nat.le_refl _, rfl, rfl, rfl, rfl, rfl, rfl, Nat.le_refl _, rfl, rfl, fun r hr => st_tear_ne (by omega) (by omega) (by omega)⟩
end AL2
