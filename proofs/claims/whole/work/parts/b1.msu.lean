/-! a law's text: the model reads sums so -/
def MFx (g0 g : HS) (l e : Nat) : Prop := MCX g0 g l ∧ hI g 86 55 = nI e ∧ 0 < e ∧ e < 100000
def RN (F : Nat) (v1 v2 : Int32) (h : HS) (st : Int32) (h' : HS) (st' : Int32) (k : Nat) : Prop := ∀ n, p266_L88 F (n + k) h v1 v2 st = p266_L88 F n h' v1 v2 st'
theorem RN.tr {F : Nat} {v1 v2 : Int32} {a b c : HS} {x y z : Int32} {i j : Nat} (r : RN F v1 v2 a x b y i) (q : RN F v1 v2 b y c z j) : RN F v1 v2 a x c z (i + j) := fun n => by
  rw [show n + (i + j) = n + j + i by omega, r, q]
theorem RN.rf {F : Nat} {v1 v2 : Int32} {a : HS} {x : Int32} : RN F v1 v2 a x a x 0 := fun _ => rfl
section MSU
variable {n : Nat} {β : Nat → Nat} {l : Nat} {g0 g : HS} {p : Nat} {S : List Nat} {s : PST} {d e F : Nat} {v1 v2 : Int32}
theorem MC.mf (M : MC n β l g0 g p S s d e) (he : 0 < e) : MFx g0 g l e := ⟨M.1, M.2.2.2.1.1, he, M.2.2.2.1.2⟩
theorem rn0 {g' : HS} {x : Int32} (h5 : hI g 86 55 = 0) (e1 : p261 F g = some (x, g')) : RN F v1 v2 g 0 g' x 1 := fun n => by
  rw [p266_L88, if_neg (show ¬ (0 : Int32) = 4 by decide), if_pos h5, if_pos rfl, e1, ob]
theorem rn1a {g' : HS} (h5 : hI g 86 55 = 0) (e1 : p259 F g = some (0, g')) : RN F v1 v2 g 1 g' 1 1 := fun n => by
  rw [p266_L88, if_neg (show ¬ (1 : Int32) = 4 by decide), if_pos h5, if_neg n10, if_pos rfl, e1, ob, if_pos rfl]
  rfl
theorem rn1b {g' : HS} (h5 : hI g 86 55 = 0) (e1 : p259 F g = some (1, g')) : RN F v1 v2 g 1 g' 2 1 := fun n => by
  rw [p266_L88, if_neg (show ¬ (1 : Int32) = 4 by decide), if_pos h5, if_neg n10, if_pos rfl, e1, ob, if_neg n10]
  rfl
theorem rn2 {g' : HS} {x : Int32} (h5 : hI g 86 55 = 0) (e1 : p262 F g (if v2 = 2 then 1 else 0) = some (x, g')) : RN F v1 v2 g 2 g' x 1 := fun n => by
  rw [p266_L88, if_neg (show ¬ (2 : Int32) = 4 by decide), if_pos h5, if_neg (show ¬ (2 : Int32) = 0 by decide), if_neg (show ¬ (2 : Int32) = 1 by decide), if_pos rfl]
  unfold p266_j163
  by_cases z : v2 = 2
  · rw [if_pos z] at e1 ⊢
    rw [e1, ob]
  · rw [if_neg z] at e1 ⊢
    rw [e1, ob]
theorem rn3 {g' : HS} {x : Int32} (h5 : hI g 86 55 = 0) (e1 : p264 F g = some (x, g')) : RN F v1 v2 g 3 g' x 1 := fun n => by
  rw [p266_L88, if_neg (show ¬ (3 : Int32) = 4 by decide), if_pos h5, if_neg (show ¬ (3 : Int32) = 0 by decide), if_neg (show ¬ (3 : Int32) = 1 by decide), if_neg (show ¬ (3 : Int32) = 2 by decide), e1, ob]
theorem MC.z (M : MC n β l g0 g p S s d 0) : hI g 86 55 = 0 := M.2.2.2.1.1
/-- after a sum: closed, or not -/
theorem hv1 (A : AM g0 n β l) (a0 : Int32) (M : MC n β l g0 g (tPl n β s.1) (S ++ [15]) s (d + 1) 0) (hS : S.length < 400) : (tTk n β s.1 = 10042 → ∃ g' p', hvR F a0 g (sgB n β (tPl n β s.1)) = some (2, g') ∧ MC n β l g0 g' p' S (s.1 + 1, s.2.1, s.2.2) d 0) ∧ (¬ tTk n β s.1 = 10042 → ∃ g', hvR F a0 g (sgB n β (tPl n β s.1)) = some (4, g') ∧ MFx g0 g' l (1 + 8 * tPl n β s.1 + 0)) := by
  obtain ⟨w, mh, st, -⟩ := M.am A
  have hn := mh.1
  have hq := (tPl_b (n := n) (β := β) s.1).1
  have i41 := sg_iff (fun j hj => (mh.2.2 j hj).1) (c := 41) (t := 10042) (i := s.1) (by decide)
  have et := M.tp (by rw [List.length_append]; show S.length + 1 ≤ 400; omega)
  rw [tp_a] at et
  unfold hvR
  refine ⟨fun h => ?_, fun h => ?_⟩
  · obtain ⟨zq, te⟩ := nx1 (c := 41) (by decide) h
    obtain ⟨n1, n2⟩ := nxt (n := n) (β := β) zq
    rw [te] at n1 n2
    obtain ⟨M1, -, -⟩ := M.pp hS
    have M2 : MC n β l g0 (hsI (hsI g 86 68 (hI g 86 68 - 1)) 86 56 (hI (hsI g 86 68 (hI g 86 68 - 1)) 86 56 - 1)) (tPl n β s.1) S s d 0 := by
      obtain ⟨m0, m1, m3, m4, m5, m6, m7, m8, m9, m10⟩ := id M1
      exact M1.w1 (by decide) m1 (by rw [hsI_k (by decide)]; exact m3) ⟨by rw [hsI_k (by decide)]; exact m4.1, m4.2⟩ (by rw [hsI_s, m5, nI_pred]) (by rw [hsI_k (by decide)]; exact m6) rfl (hsI_k (by decide)) (by rw [hsI_k (by decide)]; exact m8) m9
    rw [if_pos (show sgB n β (tPl n β s.1) = 41 from i41.mpr h), et, ob, if_pos (show nI 15 = 15 from rfl), ob, M2.2.2.1, nI_1]
    exact ⟨_, tPl n β s.1 + 1, rfl, M2.po (p' := tPl n β s.1 + 1) (i' := s.1 + 1) ⟨n1, n2⟩⟩
  · obtain ⟨g2, e2, M2⟩ := M.fl (show (0 : Int32) = nI 0 from rfl) M.2.2.1 (by decide) (by omega)
    rw [if_pos rfl] at M2
    unfold p262_j131
    rw [if_neg (show ¬ sgB n β (tPl n β s.1) = 41 from fun y => h (i41.mp y)), et, ob, if_pos (show nI 15 = 15 from rfl), e2, ob]
    exact ⟨g2, rfl, M2.mf (by omega)⟩
/-- .. of a turn -/
theorem hv2 (A : AM g0 n β l) (M : MC n β l g0 g (tPl n β s.1) S s d 0) (hS : S.length ≤ 400) (ht : ¬ tp S = 15) : ((tTk n β s.1 = 10002 ∨ tTk n β s.1 = 10040) → hvR F 1 g (sgB n β (tPl n β s.1)) = some (4, g)) ∧ (¬ (tTk n β s.1 = 10002 ∨ tTk n β s.1 = 10040) → ∃ g', hvR F 1 g (sgB n β (tPl n β s.1)) = some (4, g') ∧ MFx g0 g' l (1 + 8 * tPl n β s.1 + 0)) := by
  obtain ⟨w, mh, st, -⟩ := M.am A
  have hn := mh.1
  have hq := (tPl_b (n := n) (β := β) s.1).1
  have i59 := sg_iff (fun j hj => (mh.2.2 j hj).1) (c := 59) (t := 10040) (i := s.1) (by decide)
  have et := M.tp hS
  have e1 : hvR F 1 g (sgB n β (tPl n β s.1)) = p262_j131 F 1 g (sgB n β (tPl n β s.1)) := by
    unfold hvR
    rw [et, ob, if_neg ht, ite_self]
  have nE : tPl n β s.1 < n → ¬ tTk n β s.1 = 10002 := by
    intro z
    unfold tTk
    rw [if_pos z]
    rcases tkn_c (β := β) z with ⟨a, b, -⟩ | ⟨a, a2, -, b, -⟩ | ⟨a, a2, b, -⟩
    · omega
    · omega
    · rw [b]; have := sgT_r (β (tPl n β s.1)) (decide (tEn n β (tPl n β s.1) = tPl n β s.1 + 2)); omega
  rw [e1]
  unfold p262_j131
  rw [et, ob, if_neg ht, if_neg n10, M.2.2.1, mh.2.1]
  by_cases z : tPl n β s.1 < n
  · rw [if_pos (nI_lt z (by omega))]
    refine ⟨fun h => ?_, fun h => ?_⟩
    · rw [if_pos (show sgB n β (tPl n β s.1) = 59 from i59.mpr (h.resolve_left (nE z)))]
    · obtain ⟨g2, e2, M2⟩ := M.fl (show (0 : Int32) = nI 0 from rfl) (y := nI (tPl n β s.1)) rfl (by decide) (by omega)
      rw [if_pos rfl] at M2
      rw [if_neg (show ¬ sgB n β (tPl n β s.1) = 59 from fun y => h (Or.inr (i59.mp y))), e2, ob]
      exact ⟨g2, rfl, M2.mf (by omega)⟩
  · rw [if_neg (nI_nlt (by omega) (by omega))]
    have : tTk n β s.1 = 10002 := by unfold tTk; rw [if_neg z]
    exact ⟨fun _ => rfl, fun h => absurd (Or.inl this) h⟩
def topF (S : List Nat) : Prop := tp S = -1 ∨ tp S = 12 ∨ tp S = 13 ∨ tp S = 14 ∨ tp S = 16
theorem topF_s (h : topF S) : btS S ∧ ¬ tp S = 15 ∧ ∀ h0, p255 h0 (tp S) = some 0 := by
  unfold btS
  rcases h with h | h | h | h | h <;> rw [h] <;> exact ⟨by decide, by decide, fun _ => rfl⟩
theorem sg_op {t : Nat} (h : isSg t = true) : (∀ h0, p255 h0 (nI (opM t)) = some 1) ∧ ¬ nI (opM t) = 15 ∧ ¬ nI (opM t) = 5 ∧ ¬ nI (opM t) = 3 ∧ ¬ nI (opM t) = 4 ∧ ¬ t < 10021 := by
  obtain ⟨a, b⟩ := isSg_c h
  rcases (show t = 10048 ∨ t = 10049 ∨ t = 10050 ∨ t = 10051 ∨ t = 10052 by omega) with rfl | rfl | rfl | rfl | rfl <;> exact ⟨fun _ => rfl, by decide, by decide, by decide, by decide, by decide⟩
/-- .. the first of a fact -/
theorem hv3 (A : AM g0 n β l) (M : MC n β l g0 g (tPl n β s.1) S s d 0) (hS : S.length < 400) (hc : s.2.1 ≤ 80) (ht : topF S) : (isSg (tTk n β s.1) = true → ¬ s.2.1 = 80 → ∃ g' p', hvR F 0 g (sgB n β (tPl n β s.1)) = some (1, g') ∧ MC n β l g0 g' p' (S ++ [opM (tTk n β s.1)]) (s.1 + 1, s.2.1 + 1, s.2.2) d 0) ∧ (isSg (tTk n β s.1) = true → s.2.1 = 80 → ∃ g', hvR F 0 g (sgB n β (tPl n β s.1)) = some (1, g') ∧ MFx g0 g' l (1 + 8 * tPl n β s.1 + 3)) ∧ (isSg (tTk n β s.1) = false → ∃ g', hvR F 0 g (sgB n β (tPl n β s.1)) = some (1, g') ∧ MFx g0 g' l (1 + 8 * tPl n β s.1 + 0)) := by
  obtain ⟨w, mh, st, -⟩ := M.am A
  have hn := mh.1
  have hq := (tPl_b (n := n) (β := β) s.1).1
  have q400 : tPl n β s.1 ≤ 400 := by omega
  have et := M.tp (by omega)
  obtain ⟨-, t15, t255⟩ := topF_s ht
  obtain ⟨c1, c2⟩ := M.cp A
  have e1 : hvR F 0 g (sgB n β (tPl n β s.1)) = Option.bind (p260 g) fun r29 => if (r29.1) = (((-1)) : Int32) then (Option.bind (p244 (r29.2) (0) (nI (tPl n β s.1))) fun r32 => some (1, r32)) else (Option.bind (p258 (r29.2) (nI (tPl n β s.1))) fun r34 => Option.bind (p253 (r34) (r29.1)) fun r36 => some (1, r36)) := by
    unfold hvR p262_j131
    rw [et, ob, if_neg t15, ite_self, ob, if_neg t15, if_pos rfl, ob, t255, ob, if_pos rfl, M.2.2.1]
  rw [e1]
  have lt400 : tTk n β s.1 < 20000 → True := fun _ => trivial
  refine ⟨fun h h80 => ?_, fun h h80 => ?_, fun h => ?_⟩
  · obtain ⟨g2, e2, M2⟩ := c2 h
    have om := m1_nI (n := opM (tTk n β s.1)) (by
      obtain ⟨a, b⟩ := isSg_c h
      rcases (show tTk n β s.1 = 10048 ∨ tTk n β s.1 = 10049 ∨ tTk n β s.1 = 10050 ∨ tTk n β s.1 = 10051 ∨ tTk n β s.1 = 10052 by omega) with z | z | z | z | z <;> rw [z] <;> decide)
    obtain ⟨g3, e3, M3⟩ := M2.ct (y := nI (tPl n β s.1)) rfl q400 (by show s.2.1 < 1000; omega)
    rw [if_neg (show ¬ ((s.1 + 1, s.2.1, s.2.2) : PST).2.1 = 80 from h80)] at M3
    obtain ⟨g4, e4, M4⟩ := M3.op A (x := nI (opM (tTk n β s.1))) rfl hS
    rw [e2, ob, if_neg (fun y => by rw [om] at y; exact y), e3, ob, e4, ob]
    exact ⟨g4, tEn n β (tPl n β s.1), rfl, M4⟩
  · obtain ⟨g2, e2, M2⟩ := c2 h
    have om := m1_nI (n := opM (tTk n β s.1)) (by
      obtain ⟨a, b⟩ := isSg_c h
      rcases (show tTk n β s.1 = 10048 ∨ tTk n β s.1 = 10049 ∨ tTk n β s.1 = 10050 ∨ tTk n β s.1 = 10051 ∨ tTk n β s.1 = 10052 by omega) with z | z | z | z | z <;> rw [z] <;> decide)
    obtain ⟨g3, e3, M3⟩ := M2.ct (y := nI (tPl n β s.1)) rfl q400 (by show s.2.1 < 1000; omega)
    rw [if_pos (show ((s.1 + 1, s.2.1, s.2.2) : PST).2.1 = 80 from h80), if_pos rfl] at M3
    obtain ⟨g4, e4, M4⟩ := M3.op A (x := nI (opM (tTk n β s.1))) rfl hS
    rw [e2, ob, if_neg (fun y => by rw [om] at y; exact y), e3, ob, e4, ob]
    exact ⟨g4, rfl, M4.mf (by omega)⟩
  · obtain ⟨g2, e2, M2⟩ := M.fl (show (0 : Int32) = nI 0 from rfl) (y := nI (tPl n β s.1)) rfl (by decide) q400
    rw [if_pos rfl] at M2
    rw [c1 h, ob, if_pos rfl, e2, ob]
    exact ⟨g2, rfl, M2.mf (by omega)⟩
/-- .. the second of a fact -/
theorem hv4 (A : AM g0 n β l) {t : Nat} (ht : isSg t = true) (M : MC n β l g0 g (tPl n β s.1) (S ++ [opM t]) s d 0) (hS : S.length < 400) (hl : s.2.2.length < 400) : ∃ g', hvR F 0 g (sgB n β (tPl n β s.1)) = some (3, g') ∧ MC n β l g0 g' (tPl n β s.1) S (s.1, s.2.1, s.2.2 ++ [t]) d 0 := by
  obtain ⟨o1, o2, -, -, -, o3⟩ := sg_op ht
  have et := M.tp (by rw [List.length_append]; show S.length + 1 ≤ 400; omega)
  rw [tp_a] at et
  obtain ⟨g', e1, M1⟩ := M.pe A o3 hS hl
  refine ⟨g', ?_, M1⟩
  unfold hvR p262_j131
  rw [et, ob, if_neg o2, ite_self, ob, if_neg o2, if_pos rfl, ob, o1, ob, if_neg n10]
  exact e1 _
def OUT (n : Nat) (β : Nat → Nat) (l : Nat) (g0 : HS) (F : Nat) (v1 v2 : Int32) (h : HS) (st0 st1 : Int32) (S : List Nat) (d : Nat) (s : PST) (r : PRS) : Prop := (∃ q h' p' k, r = Sum.inr q ∧ RN F v1 v2 h st0 h' st1 k ∧ MC n β l g0 h' p' S q d 0 ∧ k + 4 * s.1 ≤ 4 * q.1) ∨ ∃ e h' st' k, r = Sum.inl e ∧ RN F v1 v2 h st0 h' st' k ∧ MFx g0 h' l e ∧ k + 4 * s.1 ≤ 2000
def OUTS (n : Nat) (β : Nat → Nat) (l : Nat) (g0 : HS) (F : Nat) (v1 v2 : Int32) (h : HS) (st0 : Int32) (B : List Nat) (d : Nat) (s : PST) (r : PRS) : Prop := (∃ q h' p' k J Mm Cm, r = Sum.inr q ∧ RN F v1 v2 h st0 h' 2 k ∧ JS J ∧ MS1 Mm ∧ MC n β l g0 h' p' (B ++ J.map opM ++ Mm.map opM) (q.1, q.2.1, Cm) d 0 ∧ q.2.2 = Cm ++ Mm ++ J ∧ k + 4 * s.1 ≤ 4 * q.1 ∧ Cm.length + (B.length + J.length + Mm.length) ≤ q.1) ∨ ∃ e h' st' k, r = Sum.inl e ∧ RN F v1 v2 h st0 h' st' k ∧ MFx g0 h' l e ∧ k + 4 * s.1 ≤ 2000
def SIMV (n : Nat) (β : Nat → Nat) (l : Nat) (g0 : HS) (F : Nat) (v1 v2 : Int32) (d : Nat) (V : PST → PRS) : Prop := ∀ h p S s, MC n β l g0 h p S s d 0 → s.1 ≤ tMx n β → s.2.2.length + S.length ≤ s.1 → s.2.1 ≤ 80 → OUT n β l g0 F v1 v2 h 1 2 S d s (V s)
theorem smIn (A : AM g0 n β l) (hF : 1000 ≤ F) {V : PST → PRS} (hG : GDA (tTk n β) (tMx n β) false V) (hV : SIMV n β l g0 F v1 v2 d V) {B : List Nat} (hB : btS B) {J : List Nat} (hJ : JS J) : ∀ (N : Nat) (h : HS) (p : Nat) (Mm Cm : List Nat) (s : PST), tMx n β - s.1 < N → MS1 Mm → s.2.2 = Cm ++ Mm → MC n β l g0 h p (B ++ J.map opM ++ Mm.map opM) (s.1, s.2.1, Cm) d 0 → s.1 ≤ tMx n β → Cm.length + (B.length + J.length + Mm.length) ≤ s.1 → s.2.1 ≤ 80 → (∃ q h' p' k Mm' Cm', aIn (tTk n β) V 10047 N s = Sum.inr q ∧ RN F v1 v2 h 2 h' 2 k ∧ MS1 Mm' ∧ q.2.2 = Cm' ++ Mm' ∧ MC n β l g0 h' p' (B ++ J.map opM ++ Mm'.map opM) (q.1, q.2.1, Cm') d 0 ∧ k + 4 * s.1 ≤ 4 * q.1 ∧ q.1 ≤ tMx n β ∧ Cm'.length + (B.length + J.length + Mm'.length) ≤ q.1 ∧ q.2.1 ≤ 80 ∧ ¬ tTk n β q.1 = 10047) ∨ ∃ e h' st' k, aIn (tTk n β) V 10047 N s = Sum.inl e ∧ RN F v1 v2 h 2 h' st' k ∧ MFx g0 h' l e ∧ k + 4 * s.1 ≤ 2000 := by
  have hn := A.2.1.1
  have hmx := tMx_b (n := n) (β := β) hn
  intro N
  induction N with
  | zero => intro h p Mm Cm s z; omega
  | succ N ih =>
    intro h p Mm Cm s hN hM hC M hs hl hc
    rw [aIn]
    by_cases z : tTk n β s.1 = 10047
    · have lt : s.1 < tMx n β := lt_m (tTk_m (n := n) (β := β) hn) hs (by omega)
      rw [if_pos z]
      obtain ⟨g1, p1, e1, M1⟩ := (hvM (F := F) A hF (if v2 = 2 then 1 else 0) hJ hM hB M hl hs).1 z
      have r1 : RN F v1 v2 h 2 g1 1 1 := rn2 M.z e1
      have lS : (B ++ J.map opM ++ [5]).length = B.length + J.length + 1 := by rw [List.length_append, List.length_append, List.length_map]; rfl
      have lC : (Cm ++ Mm).length = Cm.length + Mm.length := List.length_append
      rw [hC]
      rcases hV g1 p1 (B ++ J.map opM ++ [5]) _ M1 lt (by show (Cm ++ Mm).length + _ ≤ s.1 + 1; rw [lS, lC]; omega) hc with ⟨q, h2, p2, k2, eq, r2, M2, kk⟩ | ⟨e, h2, st2, k2, eq, r2, M2, kk⟩
      · have eq : V (s.1 + 1, s.2.1, Cm ++ Mm) = Sum.inr q := eq
        have kk : k2 + 4 * (s.1 + 1) ≤ 4 * q.1 := kk
        obtain ⟨l1, D, d1, d2, d3, d4, -⟩ := hG _ _ (show s.1 + 1 ≤ tMx n β from lt) eq
        have l1 : s.1 + 1 < q.1 := l1
        have d2 : q.2.2.length + (s.1 + 1) ≤ (Cm ++ Mm).length + q.1 := d2
        rw [lC] at d2
        rw [eq, pbd_r]
        rcases ih h2 p2 [10047] q.2.2 (q.1, q.2.1, q.2.2 ++ [10047]) (by show tMx n β - q.1 < N; omega) (Or.inr rfl) rfl M2 d1 (by show q.2.2.length + (B.length + J.length + 1) ≤ q.1; omega) (d4 hc) with ⟨q3, h3, p3, k3, Mm3, Cm3, y1, y2, y3, y4, y5, y6, y7⟩ | ⟨e3, h3, st3, k3, y1, y2, y3, y4⟩
        · have y6 : k3 + 4 * q.1 ≤ 4 * q3.1 := y6
          exact Or.inl ⟨q3, h3, p3, 1 + k2 + k3, Mm3, Cm3, y1, (r1.tr r2).tr y2, y3, y4, y5, by omega, y7⟩
        · have y4 : k3 + 4 * q.1 ≤ 2000 := y4
          exact Or.inr ⟨e3, h3, st3, 1 + k2 + k3, y1, (r1.tr r2).tr y2, y3, by omega⟩
      · have eq : V (s.1 + 1, s.2.1, Cm ++ Mm) = Sum.inl e := eq
        have kk : k2 + 4 * (s.1 + 1) ≤ 2000 := kk
        rw [eq, pbd_l]
        exact Or.inr ⟨e, h2, st2, 1 + k2, rfl, r1.tr r2, M2, by omega⟩
    · rw [if_neg z]
      exact Or.inl ⟨s, h, p, 0, Mm, Cm, rfl, RN.rf, hM, hC, M, by omega, hs, hl, hc, z⟩
theorem smOu (A : AM g0 n β l) (hF : 1000 ≤ F) {V : PST → PRS} (hG : GDA (tTk n β) (tMx n β) false V) (hV : SIMV n β l g0 F v1 v2 d V) {B : List Nat} (hB : btS B) : ∀ (N : Nat) (J : List Nat) (h : HS) (p : Nat) (s : PST), tMx n β - s.1 < N → JS J → MC n β l g0 h p (B ++ J.map opM) s d 0 → s.1 ≤ tMx n β → s.2.2.length + (B.length + J.length) ≤ s.1 → s.2.1 ≤ 80 → OUTS n β l g0 F v1 v2 h 1 B d s (aOu (tTk n β) V 10047 isPM N J s) := by
  have hn := A.2.1.1
  have hmx := tMx_b (n := n) (β := β) hn
  intro N
  induction N with
  | zero => intro J h p s z; omega
  | succ N ih =>
    intro J h p s hN hJ M hs hl hc
    rw [aOu]
    have lS : (B ++ J.map opM).length = B.length + J.length := by rw [List.length_append, List.length_map]
    rcases hV h p (B ++ J.map opM) s M hs (by rw [lS]; exact hl) hc with ⟨q, h2, p2, k2, eq, r2, M2, kk⟩ | ⟨e, h2, st2, k2, eq, r2, M2, kk⟩
    · obtain ⟨l1, D, d1, d2, d3, d4, -⟩ := hG _ _ hs eq
      rw [eq, pbd_r]
      rcases smIn (F := F) (v1 := v1) (v2 := v2) A hF hG hV hB hJ 401 h2 p2 [] q.2.2 q (by omega) (Or.inl rfl) (List.append_nil _).symm (by rw [List.map_nil, List.append_nil]; exact M2) d1 (by show q.2.2.length + (B.length + J.length + 0) ≤ q.1; omega) (d4 hc) with ⟨q3, h3, p3, k3, Mm3, Cm3, y1, y2, y3, y4, y5, y6, y7, y8, y9, y10⟩ | ⟨e3, h3, st3, k3, y1, y2, y3, y4⟩
      · rw [y1, pbd_r]
        cases hp : isPM (tTk n β q3.1)
        · rw [if_neg (by decide)]
          exact Or.inl ⟨_, h3, p3, k2 + k3, J, Mm3, Cm3, rfl, r2.tr y2, hJ, y3, y5, by show q3.2.2 ++ J = _; rw [y4], by show k2 + k3 + 4 * s.1 ≤ 4 * q3.1; omega, by show Cm3.length + _ ≤ q3.1; omega⟩
        · rw [if_pos rfl]
          have hpc := isPM_c _ hp
          have lt : q3.1 < tMx n β := lt_m (tTk_m (n := n) (β := β) hn) y7 (by omega)
          obtain ⟨g4, p4, e4, M4⟩ := (hvM (F := F) A hF (if v2 = 2 then 1 else 0) hJ y3 hB y5 y8 y7).2.1 hp
          have r4 : RN F v1 v2 h3 2 g4 1 1 := rn2 y5.z e4
          have l4 : (Cm3 ++ Mm3 ++ J).length = Cm3.length + Mm3.length + J.length := by rw [List.length_append, List.length_append]
          have M4 : MC n β l g0 g4 p4 (B ++ [tTk n β q3.1].map opM) (q3.1 + 1, q3.2.1, q3.2.2 ++ J) d 0 := by rw [y4]; exact M4
          rcases ih [tTk n β q3.1] g4 p4 (q3.1 + 1, q3.2.1, q3.2.2 ++ J) (by show tMx n β - (q3.1 + 1) < N; omega) (Or.inr ⟨_, rfl, hp⟩) M4 lt (by show (q3.2.2 ++ J).length + (B.length + 1) ≤ q3.1 + 1; rw [y4, l4]; omega) y9 with ⟨q5, h5, p5, k5, J5, Mm5, Cm5, z1, z2, z3, z4, z5, z6, z7, z8⟩ | ⟨e5, h5, st5, k5, z1, z2, z3, z4⟩
          · have z7 : k5 + 4 * (q3.1 + 1) ≤ 4 * q5.1 := z7
            exact Or.inl ⟨q5, h5, p5, k2 + k3 + 1 + k5, J5, Mm5, Cm5, z1, ((r2.tr y2).tr r4).tr z2, z3, z4, z5, z6, by omega, z8⟩
          · have z4 : k5 + 4 * (q3.1 + 1) ≤ 2000 := z4
            exact Or.inr ⟨e5, h5, st5, k2 + k3 + 1 + k5, z1, ((r2.tr y2).tr r4).tr z2, z3, by omega⟩
      · rw [y1, pbd_l]
        exact Or.inr ⟨e3, h3, st3, k2 + k3, rfl, r2.tr y2, y3, by omega⟩
    · rw [eq, pbd_l]
      exact Or.inr ⟨e, h2, st2, k2, rfl, r2, M2, kk⟩
/-- values, as deep as one likes -/
theorem simV (A : AM g0 n β l) (hF : 1000 ≤ F) : ∀ (G : Nat), G ≤ 10 → SIMV n β l g0 F v1 v2 (10 - G) (aVl (tTk n β) (tPl n β) (G + 1)) := by
  have hn := A.2.1.1
  have hmx := tMx_b (n := n) (β := β) hn
  have hT := tTk_m (n := n) (β := β) hn
  intro G
  induction G with
  | zero =>
    intro _ h p S s M hs hl hc
    obtain ⟨a1, a2, a3⟩ := vaM (F := F) A hF M hs hl hc (by omega)
    rw [aVl]
    cases hp : isPl (tTk n β s.1)
    · rw [if_neg (by decide)]
      by_cases z : tTk n β s.1 = 10041
      · rw [if_pos z, if_pos rfl]
        obtain ⟨g', p', e1, M1⟩ := a2 z
        rw [if_pos (show 10 - 0 = 10 from rfl)] at M1
        exact Or.inr ⟨_, g', 1, 1, rfl, rn1a M.z e1, M1.mf (by omega), by omega⟩
      · rw [if_neg z]
        obtain ⟨g', p', S', s', d', e1, M1⟩ := a3 hp z
        exact Or.inr ⟨_, g', 2, 1, rfl, rn1b M.z e1, M1.mf (by omega), by omega⟩
    · rw [if_pos rfl]
      obtain ⟨g', p', e1, M1⟩ := a1 hp
      by_cases c : s.2.1 = 80
      · rw [if_pos c] at M1 ⊢
        exact Or.inr ⟨_, g', 2, 1, rfl, rn1b M.z e1, M1.mf (by omega), by omega⟩
      · rw [if_neg c] at M1 ⊢
        exact Or.inl ⟨_, g', p', 1, rfl, rn1b M.z e1, M1, by show 1 + 4 * s.1 ≤ 4 * (s.1 + 1); omega⟩
  | succ G ih =>
    intro hG h p S s M hs hl hc
    obtain ⟨a1, a2, a3⟩ := vaM (F := F) A hF M hs hl hc (by omega)
    rw [aVl]
    cases hp : isPl (tTk n β s.1)
    · rw [if_neg (by decide)]
      by_cases z : tTk n β s.1 = 10041
      · have lt : s.1 < tMx n β := lt_m hT hs (by omega)
        rw [if_pos z, if_neg (Nat.succ_ne_zero G)]
        obtain ⟨g', p', e1, M1⟩ := a2 z
        rw [if_neg (show ¬ 10 - (G + 1) = 10 by omega)] at M1
        have r1 : RN F v1 v2 h 1 g' 1 1 := rn1a M.z e1
        by_cases c : s.2.1 = 80
        · rw [if_pos c] at M1 ⊢
          exact Or.inr ⟨_, g', 1, 1, rfl, r1, M1.mf (by omega), by omega⟩
        · rw [if_neg c] at M1 ⊢
          have ed : 10 - (G + 1) + 1 = 10 - G := by omega
          rw [ed] at M1
          have lS : (S ++ [15]).length = S.length + 1 := by rw [List.length_append]; rfl
          have bS : btS (S ++ [15]) := by unfold btS; rw [tp_a]; decide
          have gdV := gd_val (T := tTk n β) (P := tPl n β) hT (G + 1)
          rcases smOu (F := F) (v1 := v1) (v2 := v2) (B := S ++ [15]) A hF gdV (ih (by omega)) bS 401 [] g' p' (s.1 + 1, s.2.1 + 1, s.2.2) (by show tMx n β - (s.1 + 1) < 401; omega) (Or.inl rfl) (by rw [List.map_nil, List.append_nil]; exact M1) lt (by show s.2.2.length + ((S ++ [15]).length + 0) ≤ s.1 + 1; rw [lS]; omega) (by show s.2.1 + 1 ≤ 80; omega) with ⟨q, h2, p2, k2, J, Mm, Cm, eq, r2, y3, y4, y5, y6, y7, y8⟩ | ⟨e, h2, st2, k2, eq, r2, y3, y4⟩
          · obtain ⟨⟨l1, D, d1, d2, d3, d4, -⟩, nT, nP⟩ := gd_sum hT gdV _ _ (show s.1 + 1 ≤ tMx n β from lt) eq
            have y7 : k2 + 4 * (s.1 + 1) ≤ 4 * q.1 := y7
            rw [eq, pbd_r]
            obtain ⟨g3, e3, M3⟩ := (hvM (F := F) A hF (if v2 = 2 then 1 else 0) y3 y4 bS y5 y8 d1).2.2 nT nP
            have M3 : MC n β l g0 g3 (tPl n β q.1) (S ++ [15]) q (10 - (G + 1) + 1) 0 := by
              rw [ed]
              have : (q.1, q.2.1, Cm ++ Mm ++ J) = q := by rw [← y6]
              rw [← this]
              exact M3
            obtain ⟨b1, b2'⟩ := hv1 (F := F) A (if v2 = 2 then 1 else 0) M3 (by omega)
            by_cases zc : tTk n β q.1 = 10042
            · obtain ⟨g4, p4, e4, M4⟩ := b1 zc
              rw [if_pos zc]
              exact Or.inl ⟨_, g4, p4, 1 + k2 + 1, rfl, (r1.tr r2).tr (rn2 y5.z (e3.trans e4)), M4, by show 1 + k2 + 1 + 4 * s.1 ≤ 4 * (q.1 + 1); omega⟩
            · obtain ⟨g4, e4, M4⟩ := b2' zc
              rw [if_neg zc]
              exact Or.inr ⟨_, g4, 4, 1 + k2 + 1, rfl, (r1.tr r2).tr (rn2 y5.z (e3.trans e4)), M4, by omega⟩
          · have y4 : k2 + 4 * (s.1 + 1) ≤ 2000 := y4
            rw [eq, pbd_l]
            exact Or.inr ⟨e, h2, st2, 1 + k2, rfl, r1.tr r2, y3, by omega⟩
      · rw [if_neg z]
        obtain ⟨g', p', S', s', d', e1, M1⟩ := a3 hp z
        exact Or.inr ⟨_, g', 2, 1, rfl, rn1b M.z e1, M1.mf (by omega), by omega⟩
    · rw [if_pos rfl]
      obtain ⟨g', p', e1, M1⟩ := a1 hp
      by_cases c : s.2.1 = 80
      · rw [if_pos c] at M1 ⊢
        exact Or.inr ⟨_, g', 2, 1, rfl, rn1b M.z e1, M1.mf (by omega), by omega⟩
      · rw [if_neg c] at M1 ⊢
        exact Or.inl ⟨_, g', p', 1, rfl, rn1b M.z e1, M1, by show 1 + 4 * s.1 ≤ 4 * (s.1 + 1); omega⟩
end MSU
