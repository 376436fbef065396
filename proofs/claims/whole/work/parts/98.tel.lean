/-! call: the telling -/
section TEL
variable {s : SS} {h : HS}
theorem ruT {g : HS} (E : EV s h) (L : LWc s h) {k : Nat} (hk : k < s 0 3) (f : FR ruW [] (stk s) h g) : FR ruW [] (tlD s k) h g := f.mo (fun _ z => z) (fun _ z => Or.inl z) (fun _ z => Or.inl z) (tlD160 E L hk)
/-- the class tells -/
theorem telC (E : EV s h) (R : RDc s h) (N : LN1 s h) (L : LWc s h) (D : DI s) {b k : Nat} (hb : b < s 0 10) (hk : k < s 0 3) {la : Option Nat} {x : Int64} (hla : la = match ifN s (s 0 0) (s 0 9) with | none => none | some l => some (s 34 l)) (hx : ∀ l, ifN s (s 0 0) (s 0 9) = some l → ∀ q, q < 64 → b6 x q = (asks s l && srP s q)) {F : Nat} (hF : 1000 ≤ F) : ∀ (m j n : Nat) (g : HS), j + m = s 5 k → m < n → FR ruW [] (tlD s k) h g → (∀ i, hI g (s 30 k + 4) i = if i < j then tlW (vrb s h b k i) b (hI h (s 30 k + 4) i) else hI h (s 30 k + 4) i) → (∀ i, hI g (s 30 k + 5) i = if i < j then tlL (vrb s h b k i) b (hI h (s 30 k + 5) i) else hI h (s 30 k + 5) i) → ∃ g', FR ruW [] (tlD s k) h g' ∧ (∀ i, hI g' (s 30 k + 4) i = if i < s 5 k then tlW (vrb s h b k i) b (hI h (s 30 k + 4) i) else hI h (s 30 k + 4) i) ∧ (∀ i, hI g' (s 30 k + 5) i = if i < s 5 k then tlL (vrb s h b k i) b (hI h (s 30 k + 5) i) else hI h (s 30 k + 5) i) ∧ p183_L34 F (nI b) n g (some (s 30 k)) la x (nI j) = some g' := by
  have w := E.w.1
  have b10 := E.cn.b10
  have l5 := E.sh.b5 hk
  have lo := E.sh.lo hk
  have up := E.sh.hi hk
  have ow : wl ruW [] := by decide
  intro m
  induction m with
  | zero =>
    intro j n g hj hn f h4 h5
    obtain ⟨n, rfl⟩ : ∃ n', n = n' + 1 := ⟨n - 1, by omega⟩
    obtain ⟨E1, R1, N1, L1⟩ := tl_fr E R N L D hk f
    have e : j = s 5 k := by omega
    subst e
    rw [p183_L34, ob, if_pos (E1.sh.t hk), E1.sh.f7 hk, if_neg Int32.lt_irrefl]
    exact ⟨g, f, h4, h5, rfl⟩
  | succ m ih =>
    intro j n g hj hn f h4 h5
    obtain ⟨n, rfl⟩ : ∃ n', n = n' + 1 := ⟨n - 1, by omega⟩
    obtain ⟨E1, R1, N1, L1⟩ := tl_fr E R N L D hk f
    have hjl : j < s 5 k := by omega
    have vq : vrb s g b k j = vrb s h b k j := (vrb_eq (f.fA w 141 (by decide)) (f.fA w 142 (by decide)) (f.fA w 143 (by decide)) (f.fA w 144 (by decide)) (f.fA w 145 (by decide)) (f.fL w 138 (by decide))).1
    have v2 := vrb_le L1 (r := b) (i := k) (j := j)
    rw [vq] at v2
    -- the verb and the heap behind it
    have step : ∃ g2, FR ruW [] (stk s) g g2 ∧ (Option.bind (p179 F g la (hR g 67 b) (some (s 30 k)) (nI j) x) fun r17 => Option.bind (p180 r17.2 la r17.1) fun r19 => if hT r17.2 (s 30 k) = 9 then Option.bind (p97 r17.2 (s 30 k) (nI j) (nI b) r19) fun r22 => p183_L34 F (nI b) n r22 (some (s 30 k)) la x (nI j + 1) else none) = Option.bind (p97 g2 (s 30 k) (nI j) (nI b) (nI (vrb s h b k j))) fun r22 => p183_L34 F (nI b) n r22 (some (s 30 k)) la x (nI j + 1) := by
      rw [(R1.1 b hb).1, hla]
      cases hf : ifN s (s 0 0) (s 0 9) with
      | none =>
        refine ⟨g, FR.rf (stk160 L1), ?_⟩
        have ev : vrb s h b k j = 2 := by unfold vrb; rw [hf]
        unfold p179 p180
        simp only [if_true, ob]
        rw [if_pos (E1.sh.t hk), ev]
        rfl
      | some l =>
        obtain ⟨g2, f2, e2⟩ := redC E1 R1 N1 L1 hb hk hjl hf (hx l hf) hF
        obtain ⟨E2, R2, N2, L2⟩ := ru_fr1 E1 R1 N1 L1 f2
        refine ⟨g2, f2, ?_⟩
        show (Option.bind (p179 F g (some (s 34 l)) (some (s 35 b)) (some (s 30 k)) (nI j) x) fun r17 => Option.bind (p180 r17.2 (some (s 34 l)) r17.1) fun r19 => if hT r17.2 (s 30 k) = 9 then Option.bind (p97 r17.2 (s 30 k) (nI j) (nI b) r19) fun r22 => p183_L34 F (nI b) n r22 (some (s 30 k)) (some (s 34 l)) x (nI j + 1) else none) = _
        rw [e2, ob, vrbC L1 hf L2, ob, if_pos (E2.sh.t hk), vq]
    obtain ⟨g2, f2, e2⟩ := step
    have fa := f.tr (ruT E1 L1 hk f2 |>.mo (fun _ z => z) (fun _ z => Or.inl z) (fun _ z => z) (tlD160 E L hk))
    obtain ⟨E2, R2, N2, L2⟩ := ru_fr1 E1 R1 N1 L1 f2
    have nst : ∀ d, d < 6 → ¬ stk s (s 30 k + d) := fun d hd => stk_ln L k hk d hd
    have up1 := E1.sh.hi hk
    have r4 : ∀ i, hI g2 (s 30 k + 4) i = hI g (s 30 k + 4) i := fun i => f2.oI ow.1 ow.2 (by omega) (by omega) (nst 4 (by decide)) i
    have r5 : ∀ i, hI g2 (s 30 k + 5) i = hI g (s 30 k + 5) i := fun i => f2.oI ow.1 ow.2 (by omega) (by omega) (nst 5 (by decide)) i
    have hj4 : hI g2 (s 30 k + 4) j = hI h (s 30 k + 4) j := by rw [r4, h4, if_neg (Nat.lt_irrefl j)]
    have hj5 : hI g2 (s 30 k + 5) j = hI h (s 30 k + 5) j := by rw [r5, h5, if_neg (Nat.lt_irrefl j)]
    -- what p97 does
    have tell : ∃ g3, FR ruW [] (tlD s k) g2 g3 ∧ p97 g2 (s 30 k) (nI j) (nI b) (nI (vrb s h b k j)) = some g3 ∧ (∀ i, hI g3 (s 30 k + 4) i = if i = j then tlW (vrb s h b k j) b (hI h (s 30 k + 4) j) else hI g2 (s 30 k + 4) i) ∧ (∀ i, hI g3 (s 30 k + 5) i = if i = j then tlL (vrb s h b k j) b (hI h (s 30 k + 5) j) else hI g2 (s 30 k + 5) i) := by
      unfold p97 tlW tlL
      by_cases v0 : vrb s h b k j = 0
      · refine ⟨hsI g2 (s 30 k + 4) j (hI h (s 30 k + 4) j ||| ((1 : Int32) <<< (nI b &&& 31))), (FR.rf (tlD160 E L hk)).sI (Or.inr (Or.inl (Or.inr (Or.inl rfl)))), ?_, fun i => ?_, fun i => ?_⟩
        · rw [v0, if_pos (show nI 0 = (0 : Int32) from rfl), E2.sh.r11 hk, ob, if_pos (E2.sh.t4 hk).1, (E2.sh.t4 hk).2, if_neg (nI_in (by omega) (by decide)), if_neg (nI_in (by omega) (by decide)), nI_clamp (by omega), hj4, ob]
        · by_cases z : i = j
          · subst z; rw [hI_s, if_pos rfl, if_pos v0]
          · rw [hI_sk z, if_neg z]
        · rw [hI_sn (by omega)]
          by_cases z : i = j
          · subst z; rw [if_pos rfl, if_neg (show ¬ vrb s h b k i = 1 by omega), hj5]
          · rw [if_neg z]
      · by_cases v1 : vrb s h b k j = 1
        · refine ⟨hsI g2 (s 30 k + 5) j (hI h (s 30 k + 5) j ||| ((1 : Int32) <<< (nI b &&& 31))), (FR.rf (tlD160 E L hk)).sI (Or.inr (Or.inl (Or.inr (Or.inr rfl)))), ?_, fun i => ?_, fun i => ?_⟩
          · rw [v1, if_neg (show ¬ nI 1 = (0 : Int32) by decide), if_pos (show nI 1 = (1 : Int32) from rfl), E2.sh.r12 hk, ob, if_pos (E2.sh.t5 hk).1, (E2.sh.t5 hk).2, if_neg (nI_in (by omega) (by decide)), if_neg (nI_in (by omega) (by decide)), nI_clamp (by omega), hj5, ob]
          · rw [hI_sn (by omega)]
            by_cases z : i = j
            · subst z; rw [if_pos rfl, if_neg v0, hj4]
            · rw [if_neg z]
          · by_cases z : i = j
            · subst z; rw [hI_s, if_pos rfl, if_pos v1]
            · rw [hI_sk z, if_neg z]
        · have v2' : vrb s h b k j = 2 := by omega
          refine ⟨g2, FR.rf (tlD160 E L hk), ?_, fun i => ?_, fun i => ?_⟩
          · rw [v2', if_neg (show ¬ nI 2 = (0 : Int32) by decide), if_neg (show ¬ nI 2 = (1 : Int32) by decide)]
          · by_cases z : i = j
            · subst z; rw [if_pos rfl, if_neg v0, hj4]
            · rw [if_neg z]
          · by_cases z : i = j
            · subst z; rw [if_pos rfl, if_neg v1, hj5]
            · rw [if_neg z]
    obtain ⟨g3, f3, e3, t4, t5⟩ := tell
    rw [p183_L34, ob, if_pos (E1.sh.t hk), E1.sh.f7 hk, if_pos (nI_lt hjl (by omega)), if_neg (nI_in (by omega) (by decide)), nI_clamp (by omega), e2, e3, ob, nI_1]
    refine ih (j + 1) n g3 (by omega) (by omega) (fa.tr f3) (fun i => ?_) (fun i => ?_)
    · rw [t4]
      by_cases z : i = j
      · subst z; rw [if_pos rfl, if_pos (by omega)]
      · rw [if_neg z, r4, h4]
        by_cases y : i < j
        · rw [if_pos y, if_pos (by omega)]
        · rw [if_neg y, if_neg (by omega)]
    · rw [t5]
      by_cases z : i = j
      · subst z; rw [if_pos rfl, if_pos (by omega)]
      · rw [if_neg z, r5, h5]
        by_cases y : i < j
        · rw [if_pos y, if_pos (by omega)]
        · rw [if_neg y, if_neg (by omega)]
/-- the model tells -/
def tlM : List Nat := [136, 137, 146]
theorem telM (E : EV s h) (R : RDm s h) (N : LN1 s h) (L : LWc s h) {b k : Nat} (hb : b < s 0 10) (hk : k < s 0 3) (hs : ∀ q, q < s 0 4 → hI h 147 q = b2 (srP s q)) {tw tl : Nat → Int32} (htw : ∀ i, i < s 5 k → hI h 146 (4000 * b + 20 * k + i) = thw (tw i) (tl i) b) {F : Nat} (hF : 1000 ≤ F) : ∀ (m j n : Nat) (g : HS), j + m = s 5 k → m < n → FR tlM [] nD h g → (∀ p, hI g 146 p = if 4000 * b + 20 * k ≤ p ∧ p < 4000 * b + 20 * k + j then thw (tlW (vrb s h b k (p - (4000 * b + 20 * k))) b (tw (p - (4000 * b + 20 * k)))) (tlL (vrb s h b k (p - (4000 * b + 20 * k))) b (tl (p - (4000 * b + 20 * k)))) b else hI h 146 p) → ∃ g', FR tlM [] nD h g' ∧ (∀ p, hI g' 146 p = if 4000 * b + 20 * k ≤ p ∧ p < 4000 * b + 20 * k + s 5 k then thw (tlW (vrb s h b k (p - (4000 * b + 20 * k))) b (tw (p - (4000 * b + 20 * k)))) (tlL (vrb s h b k (p - (4000 * b + 20 * k))) b (tl (p - (4000 * b + 20 * k)))) b else hI h 146 p) ∧ p288_L143 F n g (nI b) (nI k) (nI j) = some (nI b, hsI g' 142 b (-1)) := by
  have w := E.w.1
  have b10 := E.cn.b10
  have b9 := E.cn.b9
  have b3 := E.cn.b3
  have l5 := E.sh.b5 hk
  have gk : ¬ (nI k < 0 ∨ 200 ≤ (nI k).toNatClampNeg) := nI_in (by omega) (by decide)
  have fr : ∀ {g : HS}, FR tlM [] nD h g → EV s g ∧ RDm s g ∧ LN1 s g ∧ LWc s g := fun f => ⟨E.fr f (by decide) evD_n, R.fr w f (by decide), N.fr E f (by decide) (fun _ _ _ _ => id), L.fr w f (by decide) (fun _ _ _ _ _ => id)⟩
  intro m
  induction m with
  | zero =>
    intro j n g hj hn f h6
    obtain ⟨n, rfl⟩ : ∃ n', n = n' + 1 := ⟨n - 1, by omega⟩
    obtain ⟨E1, R1, N1, L1⟩ := fr f
    have e : j = s 5 k := by omega
    subst e
    rw [p288_L143, if_neg gk, nI_clamp (by omega), E1.sh.m5 hk, if_neg Int32.lt_irrefl, if_neg (nI_in (by omega) (by decide)), nI_clamp (by omega)]
    exact ⟨g, f, h6, rfl⟩
  | succ m ih =>
    intro j n g hj hn f h6
    obtain ⟨n, rfl⟩ : ∃ n', n = n' + 1 := ⟨n - 1, by omega⟩
    obtain ⟨E1, R1, N1, L1⟩ := fr f
    have hjl : j < s 5 k := by omega
    obtain ⟨vq, -, mq⟩ := vrb_eq (s := s) (r := b) (i := k) (j := j) (f.fA w 141 (by decide)) (f.fA w 142 (by decide)) (f.fA w 143 (by decide)) (f.fA w 144 (by decide)) (f.fA w 145 (by decide)) (f.fL w 138 (by decide))
    have v2 := vrb_le L (r := b) (i := k) (j := j)
    have hs1 : ∀ q, q < s 0 4 → hI g 147 q = b2 (srP s q) := fun q hq => (congrFun (f.fA w 147 (by decide)) q).trans (hs q hq)
    obtain ⟨g2, f2, e2⟩ := redM E1 R1 N1 L1 hb hk hjl hs1 hF
    have L2 : LWc s g2 := L1.fr E1.w.1 f2 (by decide) (fun _ _ _ _ _ => id)
    have fa : FR tlM [] nD h g2 := f.tr (f2.mo (by decide) (by decide) (fun _ z => z) nD160)
    have k146 : hI g2 146 = hI g 146 := f2.fA E1.w.1 146 (by decide)
    have ea : (4000 : Int32) * nI b + 20 * nI k + nI j = nI (4000 * b + 20 * k + j) := by
      rw [show (4000 : Int32) = nI 4000 from rfl, show (20 : Int32) = nI 20 from rfl, nI_mul, nI_mul, nI_add, nI_add]
    have now6 : hI g2 146 (4000 * b + 20 * k + j) = thw (tw j) (tl j) b := by
      rw [k146, h6, if_neg (by omega), htw j hjl]
    obtain ⟨own, keep⟩ := tl_own (v := vrb s h b k j) (b := b) (by omega) v2 (tw j) (tl j)
    rw [p288_L143, if_neg gk, nI_clamp (by omega), E1.sh.m5 hk, if_pos (nI_lt hjl (by omega)), e2, ob, mq]
    have gA : ¬ (nI (4000 * b + 20 * k + j) < 0 ∨ 120000 ≤ 4000 * b + 20 * k + j) := nI_in' (by omega) (by decide)
    have j185 : ∀ s0 : Int32, s0 = (2 : Int32) - nI (vrb s h b k j) → ∃ g', FR tlM [] nD h g' ∧ (∀ p, hI g' 146 p = if 4000 * b + 20 * k ≤ p ∧ p < 4000 * b + 20 * k + s 5 k then thw (tlW (vrb s h b k (p - (4000 * b + 20 * k))) b (tw (p - (4000 * b + 20 * k)))) (tlL (vrb s h b k (p - (4000 * b + 20 * k))) b (tl (p - (4000 * b + 20 * k)))) b else hI h 146 p) ∧ p288_j185 F (p288_L143 F n) g2 (nI b) (nI k) (nI j) s0 = some (nI b, hsI g' 142 b (-1)) := fun s0 hs0 => by
      have fin : ∀ v : Int32, v = thw (tlW (vrb s h b k j) b (tw j)) (tlL (vrb s h b k j) b (tl j)) b → vp_nar .byte (v.toInt8.toInt32) = v → ∃ g', FR tlM [] nD h g' ∧ (∀ p, hI g' 146 p = if 4000 * b + 20 * k ≤ p ∧ p < 4000 * b + 20 * k + s 5 k then thw (tlW (vrb s h b k (p - (4000 * b + 20 * k))) b (tw (p - (4000 * b + 20 * k)))) (tlL (vrb s h b k (p - (4000 * b + 20 * k))) b (tl (p - (4000 * b + 20 * k)))) b else hI h 146 p) ∧ p288_j233 F (p288_L143 F n) g2 (nI b) (nI k) (nI j) v (nI (4000 * b + 20 * k + j)) = some (nI b, hsI g' 142 b (-1)) := fun v hv hk2 => by
        unfold p288_j233
        rw [nI_clamp (n := 4000 * b + 20 * k + j) (by omega), if_neg gA, hk2, nI_1]
        refine ih (j + 1) n _ (by omega) (by omega) (fa.sI (Or.inl (by decide))) (fun p => ?_)
        by_cases z : p = 4000 * b + 20 * k + j
        · subst z
          rw [hI_s, if_pos (by omega), show 4000 * b + 20 * k + j - (4000 * b + 20 * k) = j by omega, hv]
        · rw [hI_sk z, k146, h6]
          by_cases y : 4000 * b + 20 * k ≤ p ∧ p < 4000 * b + 20 * k + j
          · rw [if_pos y, if_pos (by omega)]
          · rw [if_neg y, if_neg (by omega)]
      unfold p288_j185
      rw [ea, nI_clamp (n := 4000 * b + 20 * k + j) (by omega), if_neg gA, if_neg gA, now6, hs0]
      by_cases z : thw (tw j) (tl j) b < (2 : Int32) - nI (vrb s h b k j)
      · rw [if_pos z]
        exact fin _ (by rw [own, if_pos z]) (keep _ (Or.inl rfl))
      · rw [if_neg z]
        exact fin _ (by rw [own, if_neg z]) (keep _ (Or.inr rfl))
    rcases vrbM (r := b) (i := k) (j := j) (s := s) (h := h) L b9 L2 with ⟨z1, z2, z3⟩ | ⟨t, ht, z1, z2, z3⟩
    · rw [z1, if_pos rfl]
      exact j185 0 (by rw [z2]; decide)
    · rw [z1, if_neg (fun z => by have := m1_nI (n := t) (by omega); rw [this] at z; exact z), if_neg (nI_in ht (by decide)), nI_clamp (by omega), z2]
      exact j185 _ rfl
end TEL
