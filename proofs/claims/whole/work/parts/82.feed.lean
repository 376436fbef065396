/-! the tape: feed -/
def sb (b : Nat) : Int32 := (nI b).toInt8.toInt32
def TPc (s : SS) (h : HS) : Prop := ∀ i, i < s 0 12 → ∃ b, b < 256 ∧ hI h 58 i = nI b ∧ hI h 126 i = sb b
def bC (a v : Int32) : Int32 := ((a.toUInt32 >>> (v.toUInt32 &&& Int32.toUInt32 31)).toInt32) &&& 255
def bM (a v : Int32) : Int32 := vp_nar .byte ((a >>> (v &&& 31)).toInt8.toInt32)
theorem byb (a : Int32) (v : Nat) (sh : Int32) (us : UInt32) (hv : v ≤ 24) (e1 : us.toBitVec = BitVec.ofNat 32 v) (e2 : sh.toBitVec = BitVec.ofNat 32 v) : (a >>> sh).toInt8 = (((a.toUInt32 >>> us).toInt32) &&& 255).toInt8 := by
  apply Int8.toBitVec_inj.mp
  rw [Int32.toBitVec_toInt8, Int32.toBitVec_toInt8, Int32.toBitVec_shiftRight, Int32.toBitVec_and]
  have t1 : ((a.toUInt32 >>> us).toInt32).toBitVec = a.toBitVec >>> v := by
    rw [UInt32.toBitVec_toInt32, UInt32.toBitVec_shiftRight, e1]
    show a.toBitVec >>> (BitVec.ofNat 32 v % 32) = _
    rw [BitVec.ushiftRight_eq']
    congr 1
    show v % 4294967296 % 32 = v
    omega
  rw [t1]
  apply BitVec.eq_of_getLsbD_eq
  intro i hi
  rw [BitVec.getLsbD_signExtend, BitVec.getLsbD_signExtend, if_pos (by omega), if_pos (by omega), BitVec.getLsbD_and, BitVec.getLsbD_ushiftRight]
  have t2 : a.toBitVec.sshiftRight' (sh.toBitVec.smod 32) = a.toBitVec.sshiftRight v := by
    rw [e2]
    show a.toBitVec.sshiftRight ((BitVec.ofNat 32 v).smod 32).toNat = _
    congr 1
    have hz : ∀ v, v ≤ 24 → ((BitVec.ofNat 32 v).smod 32).toNat = v := by decide +kernel
    exact hz v hv
  rw [t2, BitVec.getLsbD_sshiftRight]
  have z : ∀ i, i < 8 → (255 : Int32).toBitVec.getLsbD i = true := by decide +kernel
  rw [z i hi]
  rw [if_pos (by omega), decide_eq_false (show ¬ 32 ≤ i by omega), Bool.and_true, Bool.not_false, Bool.true_and]
theorem bb_lt (x : Int32) : ∃ b, b < 256 ∧ (x &&& 255) = nI b := by
  have h1 : (x &&& 255).toBitVec.toNat < 256 := by
    rw [Int32.toBitVec_and, BitVec.toNat_and]
    exact Nat.lt_of_le_of_lt Nat.and_le_right (by decide)
  refine ⟨(x &&& 255).toBitVec.toNat, h1, ?_⟩
  apply Int32.toBitVec_inj.mp
  apply BitVec.eq_of_toNat_eq
  show _ = (BitVec.ofInt 32 ((x &&& 255).toBitVec.toNat : Int)).toNat
  rw [BitVec.ofInt_natCast, BitVec.toNat_ofNat]
  omega
theorem byv (a : Int32) (v : Nat) (hv : v = 24 ∨ v = 16 ∨ v = 8 ∨ v = 0) : ∃ b, b < 256 ∧ bC a (nI v) = nI b ∧ bM a (nI v) = sb b := by
  obtain ⟨b, hb, e⟩ := bb_lt ((a.toUInt32 >>> ((nI v).toUInt32 &&& Int32.toUInt32 31)).toInt32)
  refine ⟨b, hb, e, ?_⟩
  have k : (a >>> (nI v &&& 31)).toInt8 = (((a.toUInt32 >>> ((nI v).toUInt32 &&& Int32.toUInt32 31)).toInt32) &&& 255).toInt8 := by
    rcases hv with rfl | rfl | rfl | rfl
    · exact byb a 24 _ _ (by decide) (by decide) (by decide)
    · exact byb a 16 _ _ (by decide) (by decide) (by decide)
    · exact byb a 8 _ _ (by decide) (by decide) (by decide)
    · exact byb a 0 _ _ (by decide) (by decide) (by decide)
  unfold bM sb
  rw [vp_nar_byte, k, e]
  have hz : ∀ b, b < 256 → (nI b).toInt8.toInt32.toInt8.toInt32 = (nI b).toInt8.toInt32 := by decide +kernel
  exact hz b hb
def ap1 (n : Nat) (h : HS) (a v : Int32) : HS := hsI (hsI h 58 n (bC a v)) 57 0 (nI (n + 1))
def am1 (n : Nat) (h : HS) (a v : Int32) : HS := hsI (hsI h 126 n (bM a v)) 86 52 (nI (n + 1))
theorem ap_step {F m n : Nat} {h : HS} {a v : Int32} (e : hI h 57 0 = nI n) (hn : n < 400) (hv : (v < 0) = False) : p102_L3 F a (m + 1) h v = p102_L3 F a m (ap1 n h a v) (v + (-8)) := by
  have e2 : hI (hsI h 58 n (bC a v)) 57 0 = nI n := e
  have hv' : ¬ v < 0 := fun z => by rw [hv] at z; exact z
  rw [p102_L3, if_neg hv', e, if_pos (show nI n < 400 from nI_lt hn (by decide)), if_neg (nI_in hn (by decide)), nI_clamp (by omega), ob]
  show p102_L3 F a m (hsI (hsI h 58 n (bC a v)) 57 0 (hI (hsI h 58 n (bC a v)) 57 0 + 1)) (v + (-8)) = _
  rw [e2, nI_1]
  rfl
theorem am_step {F m n : Nat} {h : HS} {a v : Int32} (e : hI h 86 52 = nI n) (hn : n < 400) (hv : (v < 0) = False) : p242_L3 F a (m + 1) h v = p242_L3 F a m (am1 n h a v) (v + (-8)) := by
  have e2 : hI (hsI h 126 n (bM a v)) 86 52 = nI n := e
  have hv' : ¬ v < 0 := fun z => by rw [hv] at z; exact z
  rw [p242_L3, if_neg hv', e, if_neg (nI_in hn (by decide)), nI_clamp (by omega), ob]
  show p242_L3 F a m (hsI (hsI h 126 n (bM a v)) 86 52 (hI (hsI h 126 n (bM a v)) 86 52 + 1)) (v + (-8)) = _
  rw [e2, nI_1]
  rfl
def ap4 (n : Nat) (h : HS) (a : Int32) : HS := ap1 (n + 3) (ap1 (n + 2) (ap1 (n + 1) (ap1 n h a (nI 24)) a (nI 16)) a (nI 8)) a (nI 0)
def am4 (n : Nat) (h : HS) (a : Int32) : HS := am1 (n + 3) (am1 (n + 2) (am1 (n + 1) (am1 n h a (nI 24)) a (nI 16)) a (nI 8)) a (nI 0)
theorem ap1_l (n : Nat) (h : HS) (a v : Int32) : hI (ap1 n h a v) 57 0 = nI (n + 1) := by
  show u2 (hI (hsI h 58 n (bC a v))) 57 0 (nI (n + 1)) 57 0 = nI (n + 1)
  exact if_pos ⟨rfl, rfl⟩
theorem am1_l (n : Nat) (h : HS) (a v : Int32) : hI (am1 n h a v) 86 52 = nI (n + 1) := by
  show u2 (hI (hsI h 126 n (bM a v))) 86 52 (nI (n + 1)) 86 52 = nI (n + 1)
  exact if_pos ⟨rfl, rfl⟩
theorem v24 : (nI 24 : Int32) + (-8) = nI 16 ∧ (nI 16 : Int32) + (-8) = nI 8 ∧ (nI 8 : Int32) + (-8) = nI 0 ∧ (nI 0 : Int32) + (-8) = -8 ∧ ((-8 : Int32) < 0) = True := by decide
theorem ap4_ok {F n : Nat} {h : HS} {a : Int32} (hF : 5 ≤ F) (e : hI h 57 0 = nI n) (hn : n + 4 ≤ 400) : p102 F h a = some (ap4 n h a) := by
  obtain ⟨F, rfl⟩ : ∃ f, F = f + 5 := ⟨F - 5, by omega⟩
  unfold p102
  obtain ⟨v1, v2, v3, v4, v5⟩ := v24
  rw [show (24 : Int32) = nI 24 from rfl, ap_step e (by omega) (by decide), v1, ap_step (ap1_l _ _ _ _) (by omega) (by decide), v2, ap_step (ap1_l _ _ _ _) (by omega) (by decide), v3, ap_step (ap1_l _ _ _ _) (by omega) (by decide), v4, p102_L3, if_pos (by decide)]
  rfl
theorem am4_ok {F n : Nat} {h : HS} {a : Int32} (hF : 5 ≤ F) (e : hI h 86 52 = nI n) (hn : n + 4 ≤ 400) : p242 F h a = some (am4 n h a) := by
  obtain ⟨F, rfl⟩ : ∃ f, F = f + 5 := ⟨F - 5, by omega⟩
  unfold p242
  obtain ⟨v1, v2, v3, v4, v5⟩ := v24
  rw [show (24 : Int32) = nI 24 from rfl, am_step e (by omega) (by decide), v1, am_step (am1_l _ _ _ _) (by omega) (by decide), v2, am_step (am1_l _ _ _ _) (by omega) (by decide), v3, am_step (am1_l _ _ _ _) (by omega) (by decide), v4, p242_L3, if_pos (by decide)]
  rfl
theorem ap4_l (n : Nat) (h : HS) (a : Int32) : hI (ap4 n h a) 57 0 = nI (n + 4) := ap1_l _ _ _ _
theorem am4_l (n : Nat) (h : HS) (a : Int32) : hI (am4 n h a) 86 52 = nI (n + 4) := am1_l _ _ _ _
def apA (n : Nat) (h : HS) (a b c d e : Int32) : HS := ap4 (n + 16) (ap4 (n + 12) (ap4 (n + 8) (ap4 (n + 4) (ap4 n h a) b) c) d) e
def amA (n : Nat) (h : HS) (a b c d e : Int32) : HS := am4 (n + 16) (am4 (n + 12) (am4 (n + 8) (am4 (n + 4) (am4 n h a) b) c) d) e
theorem ap4_fr {W : List Nat} {K : List (Nat × Nat)} {D : Nat → Prop} {h0 h : HS} {n : Nat} {a : Int32} (f : FR W K D h0 h) (h1 : 58 ∈ W) (h2 : (57, 0) ∈ K) : FR W K D h0 (ap4 n h a) := by
  have k : ∀ n h v, FR W K D h0 h → FR W K D h0 (ap1 n h a v) := fun n h v f => (f.sI (Or.inl h1)).sI (Or.inr (Or.inr (Or.inl h2)))
  exact k _ _ _ (k _ _ _ (k _ _ _ (k _ _ _ f)))
theorem am4_fr {W : List Nat} {K : List (Nat × Nat)} {D : Nat → Prop} {h0 h : HS} {n : Nat} {a : Int32} (f : FR W K D h0 h) (h1 : 126 ∈ W) (h2 : (86, 52) ∈ K) : FR W K D h0 (am4 n h a) := by
  have k : ∀ n h v, FR W K D h0 h → FR W K D h0 (am1 n h a v) := fun n h v f => (f.sI (Or.inl h1)).sI (Or.inr (Or.inr (Or.inl h2)))
  exact k _ _ _ (k _ _ _ (k _ _ _ (k _ _ _ f)))
def feW : List Nat := [58, 126]
def feK : List (Nat × Nat) := [(57, 0), (86, 52)]
section FEED
variable {s : SS} {h : HS}
theorem apA_fr {n : Nat} {a b c d e : Int32} : FR feW feK nD h (apA n h a b c d e) := by
  have k : ∀ n h0 h a, FR feW feK nD h0 h → FR feW feK nD h0 (ap4 n h a) := fun n h0 h a f => ap4_fr f (by decide) (by decide)
  exact k _ _ _ _ (k _ _ _ _ (k _ _ _ _ (k _ _ _ _ (k _ _ _ _ (FR.rf nD160)))))
theorem apA_fm {n : Nat} {a b c d e : Int32} : FR [58] [(57, 0)] nD h (apA n h a b c d e) := by
  have k : ∀ n h0 h a, FR [58] [(57, 0)] nD h0 h → FR [58] [(57, 0)] nD h0 (ap4 n h a) := fun n h0 h a f => ap4_fr f (by decide) (by decide)
  exact k _ _ _ _ (k _ _ _ _ (k _ _ _ _ (k _ _ _ _ (k _ _ _ _ (FR.rf nD160)))))
theorem amA_fm {n : Nat} {a b c d e : Int32} : FR [126] [(86, 52)] nD h (amA n h a b c d e) := by
  have m : ∀ n h0 h a, FR [126] [(86, 52)] nD h0 h → FR [126] [(86, 52)] nD h0 (am4 n h a) := fun n h0 h a f => am4_fr f (by decide) (by decide)
  exact m _ _ _ _ (m _ _ _ _ (m _ _ _ _ (m _ _ _ _ (m _ _ _ _ (FR.rf nD160)))))
theorem feed_fr {n : Nat} {a b c d e : Int32} : FR feW feK nD h (amA n (apA n h a b c d e) a b c d e) := by
  have m : ∀ n h0 h a, FR feW feK nD h0 h → FR feW feK nD h0 (am4 n h a) := fun n h0 h a f => am4_fr f (by decide) (by decide)
  exact m _ _ _ _ (m _ _ _ _ (m _ _ _ _ (m _ _ _ _ (m _ _ _ _ apA_fr))))
theorem w_feed (E : EV s h) {F : Nat} (hF : 5 ≤ F) (a b c d e : Int32) : (∃ v, p142 F h a b c d e = some (v, h) ∧ p241 F h a b c d e = some (v, h)) ∨ ∃ v, s 0 12 + 20 ≤ 400 ∧ p142 F h a b c d e = some (v, apA (s 0 12) h a b c d e) ∧ p241 F (apA (s 0 12) h a b c d e) a b c d e = some (v, amA (s 0 12) (apA (s 0 12) h a b c d e) a b c d e) := by
  have b12 := E.cn.b12
  have e1 := E.cn.c12
  have e2 := E.cn.m12
  have e3 : hI (apA (s 0 12) h a b c d e) 86 52 = nI (s 0 12) := (apA_fm.fI E.w.1 86 52 ⟨by decide, by decide, by decide⟩).trans e2
  have hs : nI (s 0 12) + 20 = nI (s 0 12 + 20) := (nI_add (s 0 12) 20)
  by_cases hf : s 0 12 + 20 ≤ 400
  · right
    refine ⟨nI (s 0 12 + 20), hf, ?_, ?_⟩
    · unfold p142 p101
      rw [e1, hs, show (400 : Int32) = nI 400 from rfl, if_neg (fun z => by rw [lt_nI (by decide) (by omega)] at z; omega), ob, if_neg (by decide), ap4_ok hF e1 (by omega), ob, ap4_ok hF (ap4_l _ _ _) (by omega), ob, ap4_ok hF (ap4_l _ _ _) (by omega), ob, ap4_ok hF (ap4_l _ _ _) (by omega), ob, ap4_ok hF (ap4_l _ _ _) (by omega), ob]
      rw [ap4_l]
      rfl
    · unfold p241
      rw [e3, hs, show (400 : Int32) = nI 400 from rfl, if_neg (fun z => by rw [lt_nI (by decide) (by omega)] at z; omega), am4_ok hF e3 (by omega), ob, am4_ok hF (am4_l _ _ _) (by omega), ob, am4_ok hF (am4_l _ _ _) (by omega), ob, am4_ok hF (am4_l _ _ _) (by omega), ob, am4_ok hF (am4_l _ _ _) (by omega), ob]
      rw [am4_l]
      rfl
  · left
    refine ⟨-1, ?_, ?_⟩
    · unfold p142 p101
      rw [e1, hs, show (400 : Int32) = nI 400 from rfl, if_pos (by rw [lt_nI (by decide) (by omega)]; omega), ob, if_pos rfl]
    · unfold p241
      rw [e2, hs, show (400 : Int32) = nI 400 from rfl, if_pos (by rw [lt_nI (by decide) (by omega)]; omega)]
theorem ev_feed (E : EV s h) (b : s 0 12 + 20 ≤ 400) {a1 b1 c d e : Int32} : EV (u2 s 0 12 (s 0 12 + 20)) (amA (s 0 12) (apA (s 0 12) h a1 b1 c d e) a1 b1 c d e) := by
  refine E.fx feed_fr (X := [12]) (by decide) evD_n (fun r l _ => u2_rowne (by omega)) (fun j _ m => u2_u.trans (u1_ne (fun z => m (by rw [z]; decide)))) (fun j m => ?_)
  have ej : j = 12 := List.mem_singleton.mp m
  subst ej
  have q : (u2 s 0 12 (s 0 12 + 20)) 0 12 = s 0 12 + 20 := by rw [u2_u, u1_eq]
  rw [q]
  refine ⟨?_, am4_l _ _ _, b⟩
  show hI (amA (s 0 12) (apA (s 0 12) h a1 b1 c d e) a1 b1 c d e) 57 0 = nI (s 0 12 + 20)
  have l : hI (apA (s 0 12) h a1 b1 c d e) 57 0 = nI (s 0 12 + 20) := by unfold apA; rw [ap4_l]
  exact (amA_fm.fI (Nat.le_trans E.w.1 (apA_fm (n := s 0 12) (a := a1) (b := b1) (c := c) (d := d) (e := e)).1) 57 0 ⟨by decide, by decide, by decide⟩).trans l
def wdB (g : Int32 → Int32 → Int32) (a : Int32) (n : Nat) (f : Nat → Int32) (j : Nat) : Int32 := if j < n then f j else if j < n + 4 then g a (nI (24 - 8 * (j - n))) else f j
theorem wd4 (g : Int32 → Int32 → Int32) (a : Int32) (n : Nat) (f : Nat → Int32) : u1 (u1 (u1 (u1 f n (g a (nI 24))) (n + 1) (g a (nI 16))) (n + 2) (g a (nI 8))) (n + 3) (g a (nI 0)) = wdB g a n f := by
  funext j
  unfold wdB u1
  by_cases h3 : j = n + 3
  · subst h3; rw [if_pos rfl, if_neg (by omega), if_pos (by omega), show n + 3 - n = 3 by omega]
  rw [if_neg h3]
  by_cases h2 : j = n + 2
  · subst h2; rw [if_pos rfl, if_neg (by omega), if_pos (by omega), show n + 2 - n = 2 by omega]
  rw [if_neg h2]
  by_cases h1 : j = n + 1
  · subst h1; rw [if_pos rfl, if_neg (by omega), if_pos (by omega), show n + 1 - n = 1 by omega]
  rw [if_neg h1]
  by_cases h0 : j = n
  · subst h0; rw [if_pos rfl, if_neg (by omega), if_pos (by omega), show j - j = 0 by omega]
  rw [if_neg h0]
  by_cases hl : j < n
  · rw [if_pos hl]
  · rw [if_neg hl, if_neg (by omega)]
theorem ap1_r (n : Nat) (h : HS) (a v : Int32) : hI (ap1 n h a v) 58 = u1 (hI h 58) n (bC a v) := by
  unfold ap1
  simp only [hsI_ha, hI_In (show ¬ 58 = 57 by decide), hI_I]
theorem am1_r (n : Nat) (h : HS) (a v : Int32) : hI (am1 n h a v) 126 = u1 (hI h 126) n (bM a v) := by
  unfold am1
  simp only [hsI_ha, hI_In (show ¬ 126 = 86 by decide), hI_I]
theorem ap4_r (n : Nat) (h : HS) (a : Int32) : hI (ap4 n h a) 58 = wdB bC a n (hI h 58) := by
  unfold ap4
  rw [ap1_r, ap1_r, ap1_r, ap1_r, wd4]
theorem am4_r (n : Nat) (h : HS) (a : Int32) : hI (am4 n h a) 126 = wdB bM a n (hI h 126) := by
  unfold am4
  rw [am1_r, am1_r, am1_r, am1_r, wd4]
theorem wd_tp {a : Int32} {n : Nat} {f g : Nat → Int32} (H : ∀ i, i < n → ∃ b, b < 256 ∧ f i = nI b ∧ g i = sb b) : ∀ i, i < n + 4 → ∃ b, b < 256 ∧ wdB bC a n f i = nI b ∧ wdB bM a n g i = sb b := by
  intro i hi
  unfold wdB
  by_cases hl : i < n
  · rw [if_pos hl, if_pos hl]; exact H i hl
  · rw [if_neg hl, if_neg hl, if_pos hi, if_pos hi]
    exact byv a _ (by omega)
theorem tp_feed (E : EV s h) (T : TPc s h) {a1 b1 c d e : Int32} : TPc (u2 s 0 12 (s 0 12 + 20)) (amA (s 0 12) (apA (s 0 12) h a1 b1 c d e) a1 b1 c d e) := by
  intro i hi
  have q : (u2 s 0 12 (s 0 12 + 20)) 0 12 = s 0 12 + 20 := by rw [u2_u, u1_eq]
  rw [q] at hi
  have f58 : hI (amA (s 0 12) (apA (s 0 12) h a1 b1 c d e) a1 b1 c d e) 58 = hI (apA (s 0 12) h a1 b1 c d e) 58 := amA_fm.fA (Nat.le_trans E.w.1 (apA_fm (n := s 0 12) (a := a1) (b := b1) (c := c) (d := d) (e := e)).1) 58 ⟨by decide, by decide, by decide⟩
  have f126 : hI (apA (s 0 12) h a1 b1 c d e) 126 = hI h 126 := apA_fm.fA E.w.1 126 ⟨by decide, by decide, by decide⟩
  rw [f58]
  unfold amA
  rw [am4_r, am4_r, am4_r, am4_r, am4_r, f126]
  unfold apA
  rw [ap4_r, ap4_r, ap4_r, ap4_r, ap4_r]
  exact wd_tp (wd_tp (wd_tp (wd_tp (wd_tp T)))) i hi
end FEED
