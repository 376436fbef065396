/-! a law's text: the model reads tests and facts, through -/
section MTF
variable {n : Nat} {β : Nat → Nat} {l : Nat} {g0 g : HS} {p : Nat} {S : List Nat} {s : PST} {d e F : Nat} {v1 v2 : Int32}
def OUTT (n : Nat) (β : Nat → Nat) (l : Nat) (g0 : HS) (F : Nat) (v1 v2 : Int32) (h : HS) (st0 : Int32) (B : List Nat) (d : Nat) (s : PST) (r : PRS) : Prop := (∃ q h' p' k J Mm Cm, r = Sum.inr q ∧ RN F v1 v2 h st0 h' 3 k ∧ JO J ∧ MA Mm ∧ MC n β l g0 h' p' (B ++ J.map opM ++ Mm.map opM) (q.1, q.2.1, Cm) d 0 ∧ q.2.2 = Cm ++ Mm ++ J ∧ k + 4 * s.1 ≤ 4 * q.1 ∧ Cm.length + (B.length + J.length + Mm.length) ≤ q.1) ∨ ∃ e h' st' k, r = Sum.inl e ∧ RN F v1 v2 h st0 h' st' k ∧ MFx g0 h' l e ∧ k + 4 * s.1 ≤ 2001
def okB (B : List Nat) (d : Nat) : Prop := btT B ∧ ¬ tp B = 14 ∧ topF B ∧ cNn B ≤ d
theorem tf_j (h : topF S) {J : List Nat} (hJ : JO J) : topF (S ++ J.map opM) ∧ ∀ d, cNn S ≤ d → cNn (S ++ J.map opM) ≤ d := by
  rcases hJ with rfl | rfl
  · rw [List.map_nil, List.append_nil]; exact ⟨h, fun _ z => z⟩
  · refine ⟨?_, fun d z => ?_⟩
    · show topF (S ++ [opM 10028])
      unfold topF
      rw [tp_a]
      exact Or.inr (Or.inr (Or.inl (by decide)))
    · show cNn (S ++ [opM 10028]) ≤ d
      rw [cN_a, if_neg (by decide)]
      exact z
theorem tsIn (A : AM g0 n β l) (hF : 1000 ≤ F) {V : PST → PRS} (hG : GDA (tTk n β) (tMx n β) true V) (hV : SIMF n β l g0 F v1 v2 d V) {B : List Nat} (hB : okB B d) {J : List Nat} (hJ : JO J) : ∀ (N : Nat) (h : HS) (p : Nat) (Mm Cm : List Nat) (s : PST), tMx n β - s.1 < N → MA Mm → s.2.2 = Cm ++ Mm → MC n β l g0 h p (B ++ J.map opM ++ Mm.map opM) (s.1, s.2.1, Cm) d 0 → s.1 ≤ tMx n β → Cm.length + (B.length + J.length + Mm.length) ≤ s.1 → s.2.1 ≤ 80 → (∃ q h' p' k Mm' Cm', aIn (tTk n β) V 10029 N s = Sum.inr q ∧ RN F v1 v2 h 3 h' 3 k ∧ MA Mm' ∧ q.2.2 = Cm' ++ Mm' ∧ MC n β l g0 h' p' (B ++ J.map opM ++ Mm'.map opM) (q.1, q.2.1, Cm') d 0 ∧ k + 4 * s.1 ≤ 4 * q.1 ∧ q.1 ≤ tMx n β ∧ Cm'.length + (B.length + J.length + Mm'.length) ≤ q.1 ∧ q.2.1 ≤ 80 ∧ ¬ tTk n β q.1 = 10029) ∨ ∃ e h' st' k, aIn (tTk n β) V 10029 N s = Sum.inl e ∧ RN F v1 v2 h 3 h' st' k ∧ MFx g0 h' l e ∧ k + 4 * s.1 ≤ 2001 := by
  have hn := A.2.1.1
  have hmx := tMx_b (n := n) (β := β) hn
  intro N
  induction N with
  | zero => intro h p Mm Cm s z; omega
  | succ N ih =>
    intro h p Mm Cm s hN hM hC M hs hl hc
    rw [aIn]
    by_cases z : tTk n β s.1 = 10029
    · have lt : s.1 < tMx n β := lt_m (tTk_m (n := n) (β := β) hn) hs (by omega)
      rw [if_pos z]
      obtain ⟨g1, p1, e1, M1⟩ := (hfM (F := F) A hF hJ hM hB.1 hB.2.1 M hl hs).1 z
      have r1 : RN F v1 v2 h 3 g1 0 1 := rn3 M.z e1
      have lS : (B ++ J.map opM ++ [12]).length = B.length + J.length + 1 := by rw [List.length_append, List.length_append, List.length_map]; rfl
      have lC : (Cm ++ Mm).length = Cm.length + Mm.length := List.length_append
      have tS : topF (B ++ J.map opM ++ [12]) := by unfold topF; rw [tp_a]; exact Or.inr (Or.inl rfl)
      have cS : cNn (B ++ J.map opM ++ [12]) ≤ d := by rw [cN_a, if_neg (by decide)]; exact (tf_j hB.2.2.1 hJ).2 d hB.2.2.2
      rw [hC]
      rcases hV g1 p1 (B ++ J.map opM ++ [12]) _ M1 tS lt (by show (Cm ++ Mm).length + _ ≤ s.1 + 1; rw [lS, lC]; omega) hc cS with ⟨q, h2, p2, k2, eq, r2, M2, kk⟩ | ⟨e, h2, st2, k2, eq, r2, M2, kk⟩
      · have eq : V (s.1 + 1, s.2.1, Cm ++ Mm) = Sum.inr q := eq
        have kk : k2 + 4 * (s.1 + 1) ≤ 4 * q.1 := kk
        obtain ⟨l1, D, d1, d2, d3, d4, -⟩ := hG _ _ (show s.1 + 1 ≤ tMx n β from lt) eq
        have l1 : s.1 + 1 < q.1 := l1
        have d2 : q.2.2.length + (s.1 + 1) ≤ (Cm ++ Mm).length + q.1 := d2
        rw [lC] at d2
        rw [eq, pbd_r]
        rcases ih h2 p2 [10029] q.2.2 (q.1, q.2.1, q.2.2 ++ [10029]) (by show tMx n β - q.1 < N; omega) (Or.inr rfl) rfl M2 d1 (by show q.2.2.length + (B.length + J.length + 1) ≤ q.1; omega) (d4 hc) with ⟨q3, h3, p3, k3, Mm3, Cm3, y1, y2, y3, y4, y5, y6, y7⟩ | ⟨e3, h3, st3, k3, y1, y2, y3, y4⟩
        · have y6 : k3 + 4 * q.1 ≤ 4 * q3.1 := y6
          exact Or.inl ⟨q3, h3, p3, 1 + k2 + k3, Mm3, Cm3, y1, (r1.tr r2).tr y2, y3, y4, y5, by omega, y7⟩
        · have y4 : k3 + 4 * q.1 ≤ 2001 := y4
          exact Or.inr ⟨e3, h3, st3, 1 + k2 + k3, y1, (r1.tr r2).tr y2, y3, by omega⟩
      · have eq : V (s.1 + 1, s.2.1, Cm ++ Mm) = Sum.inl e := eq
        have kk : k2 + 4 * (s.1 + 1) ≤ 2001 := kk
        rw [eq, pbd_l]
        exact Or.inr ⟨e, h2, st2, 1 + k2, rfl, r1.tr r2, M2, by omega⟩
    · rw [if_neg z]
      exact Or.inl ⟨s, h, p, 0, Mm, Cm, rfl, RN.rf, hM, hC, M, by omega, hs, hl, hc, z⟩
theorem tsOu (A : AM g0 n β l) (hF : 1000 ≤ F) {V : PST → PRS} (hG : GDA (tTk n β) (tMx n β) true V) (hV : SIMF n β l g0 F v1 v2 d V) {B : List Nat} (hB : okB B d) : ∀ (N : Nat) (J : List Nat) (h : HS) (p : Nat) (s : PST), tMx n β - s.1 < N → JO J → MC n β l g0 h p (B ++ J.map opM) s d 0 → s.1 ≤ tMx n β → s.2.2.length + (B.length + J.length) ≤ s.1 → s.2.1 ≤ 80 → OUTT n β l g0 F v1 v2 h 0 B d s (aOu (tTk n β) V 10029 isOR N J s) := by
  have hn := A.2.1.1
  have hmx := tMx_b (n := n) (β := β) hn
  intro N
  induction N with
  | zero => intro J h p s z; omega
  | succ N ih =>
    intro J h p s hN hJ M hs hl hc
    rw [aOu]
    have lS : (B ++ J.map opM).length = B.length + J.length := by rw [List.length_append, List.length_map]
    obtain ⟨tf1, tf2⟩ := tf_j hB.2.2.1 hJ
    rcases hV h p (B ++ J.map opM) s M tf1 hs (by rw [lS]; exact hl) hc (tf2 d hB.2.2.2) with ⟨q, h2, p2, k2, eq, r2, M2, kk⟩ | ⟨e, h2, st2, k2, eq, r2, M2, kk⟩
    · obtain ⟨l1, D, d1, d2, d3, d4, -⟩ := hG _ _ hs eq
      rw [eq, pbd_r]
      rcases tsIn (F := F) (v1 := v1) (v2 := v2) A hF hG hV hB hJ 401 h2 p2 [] q.2.2 q (by omega) (Or.inl rfl) (List.append_nil _).symm (by rw [List.map_nil, List.append_nil]; exact M2) d1 (by show q.2.2.length + (B.length + J.length + 0) ≤ q.1; omega) (d4 hc) with ⟨q3, h3, p3, k3, Mm3, Cm3, y1, y2, y3, y4, y5, y6, y7, y8, y9, y10⟩ | ⟨e3, h3, st3, k3, y1, y2, y3, y4⟩
      · rw [y1, pbd_r]
        cases hp : isOR (tTk n β q3.1)
        · rw [if_neg (by decide)]
          exact Or.inl ⟨_, h3, p3, k2 + k3, J, Mm3, Cm3, rfl, r2.tr y2, hJ, y3, y5, by show q3.2.2 ++ J = _; rw [y4], by show k2 + k3 + 4 * s.1 ≤ 4 * q3.1; omega, by show Cm3.length + _ ≤ q3.1; omega⟩
        · rw [if_pos rfl]
          have hpc := isOR_c _ hp
          have lt : q3.1 < tMx n β := lt_m (tTk_m (n := n) (β := β) hn) y7 (by omega)
          obtain ⟨g4, p4, e4, M4⟩ := (hfM (F := F) A hF hJ y3 hB.1 hB.2.1 y5 y8 y7).2.1 hpc
          have r4 : RN F v1 v2 h3 3 g4 0 1 := rn3 y5.z e4
          have l4 : (Cm3 ++ Mm3 ++ J).length = Cm3.length + Mm3.length + J.length := by rw [List.length_append, List.length_append]
          have M4 : MC n β l g0 g4 p4 (B ++ [tTk n β q3.1].map opM) (q3.1 + 1, q3.2.1, q3.2.2 ++ J) d 0 := by rw [y4, hpc]; exact M4
          rcases ih [tTk n β q3.1] g4 p4 (q3.1 + 1, q3.2.1, q3.2.2 ++ J) (by show tMx n β - (q3.1 + 1) < N; omega) (Or.inr (by rw [hpc])) M4 lt (by show (q3.2.2 ++ J).length + (B.length + 1) ≤ q3.1 + 1; rw [y4, l4]; omega) y9 with ⟨q5, h5, p5, k5, J5, Mm5, Cm5, z1, z2, z3, z4, z5, z6, z7, z8⟩ | ⟨e5, h5, st5, k5, z1, z2, z3, z4⟩
          · have z7 : k5 + 4 * (q3.1 + 1) ≤ 4 * q5.1 := z7
            exact Or.inl ⟨q5, h5, p5, k2 + k3 + 1 + k5, J5, Mm5, Cm5, z1, ((r2.tr y2).tr r4).tr z2, z3, z4, z5, z6, by omega, z8⟩
          · have z4 : k5 + 4 * (q3.1 + 1) ≤ 2001 := z4
            exact Or.inr ⟨e5, h5, st5, k2 + k3 + 1 + k5, z1, ((r2.tr y2).tr r4).tr z2, z3, by omega⟩
      · rw [y1, pbd_l]
        exact Or.inr ⟨e3, h3, st3, k2 + k3, rfl, r2.tr y2, y3, by omega⟩
    · rw [eq, pbd_l]
      exact Or.inr ⟨e, h2, st2, k2, rfl, r2, M2, kk⟩
theorem rn33 {g' : HS} (h5 : hI g 86 55 = 0) (h5' : hI g' 86 55 = 0) (e1 : p264 F g = p264 F g') : RN F v1 v2 g 3 g' 3 0 := fun n => by
  cases n with
  | zero => rfl
  | succ n =>
    show p266_L88 F (n + 1) g v1 v2 3 = _
    rw [p266_L88, if_neg (show ¬ (3 : Int32) = 4 by decide), if_pos h5, if_neg (show ¬ (3 : Int32) = 0 by decide), if_neg (show ¬ (3 : Int32) = 1 by decide), if_neg (show ¬ (3 : Int32) = 2 by decide), e1]
    symm
    rw [p266_L88, if_neg (show ¬ (3 : Int32) = 4 by decide), if_pos h5', if_neg (show ¬ (3 : Int32) = 0 by decide), if_neg (show ¬ (3 : Int32) = 1 by decide), if_neg (show ¬ (3 : Int32) = 2 by decide)]
/-- a fact that compares -/
theorem simC (A : AM g0 n β l) (hF : 1000 ≤ F) (hv : ¬ v2 = 2) (G : Nat) (hG : G ≤ 10) {h : HS} (M : MC n β l g0 h p S s (10 - G) 0) (hT : topF S) (hs : s.1 ≤ tMx n β) (hl : s.2.2.length + S.length ≤ s.1) (hc : s.2.1 ≤ 80) : (∃ q h' p' k, (pbd (aSu (tTk n β) (tPl n β) (G + 1) s) (fun r => if isSg (tTk n β r.1) then (if r.2.1 = 80 then flt (tPl n β) r.1 3 else pbd (aSu (tTk n β) (tPl n β) (G + 1) (r.1 + 1, r.2.1 + 1, r.2.2)) (fun q => Sum.inr (q.1, q.2.1, q.2.2 ++ [tTk n β r.1]))) else flt (tPl n β) r.1 0)) = Sum.inr q ∧ RN F v1 v2 h 1 h' 3 k ∧ MC n β l g0 h' p' S q (10 - G) 0 ∧ k + 1 + 4 * s.1 ≤ 4 * q.1) ∨ ∃ e h' st' k, (pbd (aSu (tTk n β) (tPl n β) (G + 1) s) (fun r => if isSg (tTk n β r.1) then (if r.2.1 = 80 then flt (tPl n β) r.1 3 else pbd (aSu (tTk n β) (tPl n β) (G + 1) (r.1 + 1, r.2.1 + 1, r.2.2)) (fun q => Sum.inr (q.1, q.2.1, q.2.2 ++ [tTk n β r.1]))) else flt (tPl n β) r.1 0)) = Sum.inl e ∧ RN F v1 v2 h 1 h' st' k ∧ MFx g0 h' l e ∧ k + 4 * s.1 ≤ 2000 := by
  have hn := A.2.1.1
  have hmx := tMx_b (n := n) (β := β) hn
  have hTm := tTk_m (n := n) (β := β) hn
  have gdV := gd_val (T := tTk n β) (P := tPl n β) hTm (G + 1)
  obtain ⟨bS, t15, -⟩ := topF_s hT
  have sV := simV (F := F) (v1 := v1) (v2 := v2) A hF G hG
  have ev : (if v2 = 2 then (1 : Int32) else 0) = 0 := if_neg hv
  rcases smOu (F := F) (v1 := v1) (v2 := v2) (B := S) A hF gdV sV bS 401 [] h p s (by omega) (Or.inl rfl) (by rw [List.map_nil, List.append_nil]; exact M) hs (by show s.2.2.length + (S.length + 0) ≤ s.1; omega) hc with ⟨q, h2, p2, k2, J, Mm, Cm, eq, r2, y3, y4, y5, y6, y7, y8⟩ | ⟨e, h2, st2, k2, eq, r2, y3, y4⟩
  · obtain ⟨⟨l1, D, d1, d2, d3, d4, -⟩, nT, nP⟩ := gd_sum hTm gdV _ _ hs eq
    have d4 := d4 hc
    have eq' : aSu (tTk n β) (tPl n β) (G + 1) s = Sum.inr q := eq
    rw [eq', pbd_r]
    obtain ⟨g3, e3, M3⟩ := (hvM (F := F) A hF (if v2 = 2 then 1 else 0) y3 y4 bS y5 y8 d1).2.2 nT nP
    rw [ev] at e3
    have M3 : MC n β l g0 g3 (tPl n β q.1) S q (10 - G) 0 := by
      have : (q.1, q.2.1, Cm ++ Mm ++ J) = q := by rw [← y6]
      rw [← this]
      exact M3
    obtain ⟨b1, b2', b3⟩ := hv3 (F := F) A M3 (by omega) d4 hT
    have rr : ∀ {x : Int32} {g' : HS}, hvR F 0 g3 (sgB n β (tPl n β q.1)) = some (x, g') → RN F v1 v2 h 1 g' x (k2 + 1) := fun ex => r2.tr (rn2 y5.z (by rw [ev]; exact e3.trans ex))
    cases hg : isSg (tTk n β q.1)
    · rw [if_neg (by decide)]
      obtain ⟨g4, e4, M4⟩ := b3 hg
      exact Or.inr ⟨_, g4, 1, k2 + 1, rfl, rr e4, M4, by omega⟩
    · rw [if_pos rfl]
      obtain ⟨sg1, sg2⟩ := isSg_c hg
      have lq : q.1 < tMx n β := lt_m hTm d1 (by omega)
      by_cases c80 : q.2.1 = 80
      · rw [if_pos c80]
        obtain ⟨g4, e4, M4⟩ := b2' hg c80
        exact Or.inr ⟨_, g4, 1, k2 + 1, rfl, rr e4, M4, by omega⟩
      · rw [if_neg c80]
        obtain ⟨g4, p4, e4, M4⟩ := b1 hg c80
        obtain ⟨o1, o2, o3, o4, o5, o6⟩ := sg_op hg
        have bS2 : btS (S ++ [opM (tTk n β q.1)]) := by unfold btS; rw [tp_a]; exact ⟨o3, o4, o5⟩
        have lS : (S ++ [opM (tTk n β q.1)]).length = S.length + 1 := by rw [List.length_append]; rfl
        rcases smOu (F := F) (v1 := v1) (v2 := v2) (B := S ++ [opM (tTk n β q.1)]) A hF gdV sV bS2 401 [] g4 p4 (q.1 + 1, q.2.1 + 1, q.2.2) (by show tMx n β - (q.1 + 1) < 401; omega) (Or.inl rfl) (by rw [List.map_nil, List.append_nil]; exact M4) lq (by show q.2.2.length + ((S ++ [opM (tTk n β q.1)]).length + 0) ≤ q.1 + 1; rw [lS]; omega) (by show q.2.1 + 1 ≤ 80; omega) with ⟨q5, h5, p5, k5, J5, Mm5, Cm5, z1, z2, z3, z4, z5, z6, z7, z8⟩ | ⟨e5, h5, st5, k5, z1, z2, z3, z4⟩
        · obtain ⟨⟨f1, D2, x1, x2, x3, x4, -⟩, nT2, nP2⟩ := gd_sum hTm gdV _ _ (show q.1 + 1 ≤ tMx n β from lq) z1
          have z7 : k5 + 4 * (q.1 + 1) ≤ 4 * q5.1 := z7
          have f1 : q.1 + 1 < q5.1 := f1
          have x2 : q5.2.2.length + (q.1 + 1) ≤ q.2.2.length + q5.1 := x2
          have z1' : aSu (tTk n β) (tPl n β) (G + 1) (q.1 + 1, q.2.1 + 1, q.2.2) = Sum.inr q5 := z1
          rw [z1', pbd_r]
          obtain ⟨g6, e6, M6⟩ := (hvM (F := F) A hF (if v2 = 2 then 1 else 0) z3 z4 bS2 z5 z8 x1).2.2 nT2 nP2
          rw [ev] at e6
          have M6 : MC n β l g0 g6 (tPl n β q5.1) (S ++ [opM (tTk n β q.1)]) q5 (10 - G) 0 := by
            have : (q5.1, q5.2.1, Cm5 ++ Mm5 ++ J5) = q5 := by rw [← z6]
            rw [← this]
            exact M6
          obtain ⟨g7, e7, M7⟩ := hv4 (F := F) A hg M6 (by omega) (by omega)
          exact Or.inl ⟨_, g7, _, k2 + 1 + k5 + 1, rfl, ((rr e4).tr z2).tr (rn2 z5.z (by rw [ev]; exact e6.trans e7)), M7, by show k2 + 1 + k5 + 1 + 1 + 4 * s.1 ≤ 4 * q5.1; omega⟩
        · have z4 : k5 + 4 * (q.1 + 1) ≤ 2000 := z4
          have z1' : aSu (tTk n β) (tPl n β) (G + 1) (q.1 + 1, q.2.1 + 1, q.2.2) = Sum.inl e5 := z1
          rw [z1', pbd_l]
          exact Or.inr ⟨e5, h5, st5, k2 + 1 + k5, rfl, (rr e4).tr z2, z3, by omega⟩
  · have eq' : aSu (tTk n β) (tPl n β) (G + 1) s = Sum.inl e := eq
    rw [eq', pbd_l]
    exact Or.inr ⟨e, h2, st2, k2, rfl, r2, y3, y4⟩
theorem simF (A : AM g0 n β l) (hF : 1000 ≤ F) (hv : ¬ v2 = 2) : ∀ (G : Nat), G ≤ 10 → SIMF n β l g0 F v1 v2 (10 - G) (aFt (tTk n β) (tPl n β) (G + 1)) := by
  have hn := A.2.1.1
  have hmx := tMx_b (n := n) (β := β) hn
  have hTm := tTk_m (n := n) (β := β) hn
  intro G
  induction G with
  | zero =>
    intro hG h p S s M hT hs hl hc hcN
    obtain ⟨a1, a2, a3⟩ := wfM (F := F) A hF M hs hl (by omega)
    rw [aFt]
    by_cases z1 : tTk n β s.1 = 10030
    · rw [if_pos z1, if_pos rfl]
      obtain ⟨g', p', e1, M1⟩ := a1 z1
      rw [if_pos (show 10 - 0 = 10 from rfl)] at M1
      exact Or.inr ⟨_, g', 0, 1, rfl, rn0 M.z e1, M1.mf (by omega), by omega⟩
    · rw [if_neg z1]
      by_cases z2 : tTk n β s.1 = 10043
      · rw [if_pos z2, if_pos rfl]
        obtain ⟨g', p', e1, M1⟩ := a2 z2
        rw [if_pos (show 10 - 0 = 10 from rfl)] at M1
        exact Or.inr ⟨_, g', 0, 1, rfl, rn0 M.z e1, M1.mf (by omega), by omega⟩
      · rw [if_neg z2]
        obtain ⟨g', e1, M1⟩ := a3 z1 z2
        rcases simC (F := F) (v1 := v1) A hF hv 0 hG M1 hT hs hl hc with ⟨q, h2, p2, k2, eq, r2, M2, kk⟩ | ⟨e, h2, st2, k2, eq, r2, M2, kk⟩
        · exact Or.inl ⟨q, h2, p2, 1 + k2, eq, (rn0 M.z e1).tr r2, M2, by omega⟩
        · exact Or.inr ⟨e, h2, st2, 1 + k2, eq, (rn0 M.z e1).tr r2, M2, by omega⟩
  | succ G ih =>
    intro hG h p S s M hT hs hl hc hcN
    have ed : 10 - (G + 1) + 1 = 10 - G := by omega
    obtain ⟨a1, a2, a3⟩ := wfM (F := F) A hF M hs hl (by omega)
    rw [aFt]
    by_cases z1 : tTk n β s.1 = 10030
    · have lt : s.1 < tMx n β := lt_m hTm hs (by omega)
      rw [if_pos z1, if_neg (Nat.succ_ne_zero G)]
      obtain ⟨g', p', e1, M1⟩ := a1 z1
      rw [if_neg (show ¬ 10 - (G + 1) = 10 by omega), ed] at M1
      have lS : (S ++ [14]).length = S.length + 1 := by rw [List.length_append]; rfl
      rcases ih (by omega) g' p' (S ++ [14]) (s.1 + 1, s.2.1, s.2.2) M1 (by unfold topF; rw [tp_a]; exact Or.inr (Or.inr (Or.inr (Or.inl rfl)))) lt (by show s.2.2.length + (S ++ [14]).length ≤ s.1 + 1; rw [lS]; omega) hc (by rw [cN_a, if_pos (show nI 14 = 14 from rfl)]; omega) with ⟨q, h2, p2, k2, eq, r2, M2, kk⟩ | ⟨e, h2, st2, k2, eq, r2, M2, kk⟩
      · have kk : k2 + 4 * (s.1 + 1) ≤ 4 * q.1 := kk
        obtain ⟨l1, D, d1, d2, -⟩ := gd_fact (P := tPl n β) hTm (G + 1) _ _ (show s.1 + 1 ≤ tMx n β from lt) eq
        have d2 : q.2.2.length + (s.1 + 1) ≤ s.2.2.length + q.1 := d2
        rw [← ed] at M2
        obtain ⟨g3, e3, M3⟩ := hfP (F := F) A hF M2 (by omega) hcN
        rw [eq, pbd_r]
        exact Or.inl ⟨_, g3, p2, 1 + k2 + 0, rfl, ((rn0 M.z e1).tr r2).tr (rn33 M2.z M3.z e3), M3, by show 1 + k2 + 0 + 4 * s.1 ≤ 4 * q.1; omega⟩
      · have kk : k2 + 4 * (s.1 + 1) ≤ 2001 := kk
        rw [eq, pbd_l]
        exact Or.inr ⟨e, h2, st2, 1 + k2, rfl, (rn0 M.z e1).tr r2, M2, by omega⟩
    · rw [if_neg z1]
      by_cases z2 : tTk n β s.1 = 10043
      · have lt : s.1 < tMx n β := lt_m hTm hs (by omega)
        rw [if_pos z2, if_neg (Nat.succ_ne_zero G)]
        obtain ⟨g', p', e1, M1⟩ := a2 z2
        rw [if_neg (show ¬ 10 - (G + 1) = 10 by omega), ed] at M1
        have lS : (S ++ [16]).length = S.length + 1 := by rw [List.length_append]; rfl
        have gdF := gd_fact (P := tPl n β) hTm (G + 1)
        have oB : okB (S ++ [16]) (10 - G) := by
          refine ⟨by unfold btT; rw [tp_a]; decide, by rw [tp_a]; decide, by unfold topF; rw [tp_a]; exact Or.inr (Or.inr (Or.inr (Or.inr rfl))), ?_⟩
          rw [cN_a, if_neg (by decide)]
          omega
        rcases tsOu (F := F) (v1 := v1) (v2 := v2) (B := S ++ [16]) A hF gdF (ih (by omega)) oB 401 [] g' p' (s.1 + 1, s.2.1, s.2.2) (by show tMx n β - (s.1 + 1) < 401; omega) (Or.inl rfl) (by rw [List.map_nil, List.append_nil]; exact M1) lt (by show s.2.2.length + ((S ++ [16]).length + 0) ≤ s.1 + 1; rw [lS]; omega) hc with ⟨q, h2, p2, k2, J, Mm, Cm, eq, r2, y3, y4, y5, y6, y7, y8⟩ | ⟨e, h2, st2, k2, eq, r2, y3, y4⟩
        · obtain ⟨⟨l1, D, d1, d2, d3, d4, -⟩, nT, nP⟩ := gd_test hTm gdF _ _ (show s.1 + 1 ≤ tMx n β from lt) eq
          have y7 : k2 + 4 * (s.1 + 1) ≤ 4 * q.1 := y7
          have nO : ¬ tTk n β q.1 = 10028 := fun z => by rw [z] at nP; exact absurd nP (by decide)
          rw [eq, pbd_r]
          obtain ⟨g3, e3, M3⟩ := (hfM (F := F) A hF y3 y4 oB.1 oB.2.1 y5 y8 d1).2.2 nT nO
          have M3 : MC n β l g0 g3 (tPl n β q.1) (S ++ [16]) q (10 - (G + 1) + 1) 0 := by
            rw [ed]
            have : (q.1, q.2.1, Cm ++ Mm ++ J) = q := by rw [← y6]
            rw [← this]
            exact M3
          obtain ⟨b1, b2'⟩ := hf1 (F := F) A M3 (by omega)
          by_cases zc : tTk n β q.1 = 10044
          · obtain ⟨g4, p4, e4, M4⟩ := b1 zc
            rw [if_pos zc]
            exact Or.inl ⟨_, g4, p4, 1 + k2 + 1, rfl, ((rn0 M.z e1).tr r2).tr (rn3 y5.z (e3.trans e4)), M4, by show 1 + k2 + 1 + 4 * s.1 ≤ 4 * (q.1 + 1); omega⟩
          · obtain ⟨g4, e4, M4⟩ := b2' zc
            rw [if_neg zc]
            exact Or.inr ⟨_, g4, 4, 1 + k2 + 1, rfl, ((rn0 M.z e1).tr r2).tr (rn3 y5.z (e3.trans e4)), M4, by omega⟩
        · have y4 : k2 + 4 * (s.1 + 1) ≤ 2001 := y4
          rw [eq, pbd_l]
          exact Or.inr ⟨e, h2, st2, 1 + k2, rfl, (rn0 M.z e1).tr r2, y3, by omega⟩
      · rw [if_neg z2]
        obtain ⟨g', e1, M1⟩ := a3 z1 z2
        rcases simC (F := F) (v1 := v1) A hF hv (G + 1) hG M1 hT hs hl hc with ⟨q, h2, p2, k2, eq, r2, M2, kk⟩ | ⟨e, h2, st2, k2, eq, r2, M2, kk⟩
        · exact Or.inl ⟨q, h2, p2, 1 + k2, eq, (rn0 M.z e1).tr r2, M2, by omega⟩
        · exact Or.inr ⟨e, h2, st2, 1 + k2, eq, (rn0 M.z e1).tr r2, M2, by omega⟩
/-- a clause's test, or its sum, to the end -/
theorem simB (A : AM g0 n β l) (hF : 3000 ≤ F) {kd : Nat} (hv : v2 = nI kd) (hk : kd ≤ 2) {h : HS} (M : MC n β l g0 h p [] s 0 0) (hs : s.1 ≤ tMx n β) (hl : s.2.2.length ≤ s.1) (hc : s.2.1 ≤ 80) : (∃ q h' k, aBd (tTk n β) (tPl n β) kd s = Sum.inr q ∧ (tTk n β q.1 = 10002 ∨ tTk n β q.1 = 10040) ∧ RN F v1 v2 h (if kd = 2 then 1 else 0) h' 4 k ∧ MC n β l g0 h' (tPl n β q.1) [] q 0 0 ∧ k ≤ 2010) ∨ ∃ e h' st' k, ((aBd (tTk n β) (tPl n β) kd s = Sum.inl e) ∨ ∃ q, aBd (tTk n β) (tPl n β) kd s = Sum.inr q ∧ ¬ (tTk n β q.1 = 10002 ∨ tTk n β q.1 = 10040) ∧ e = 1 + 8 * tPl n β q.1 + 0) ∧ RN F v1 v2 h (if kd = 2 then 1 else 0) h' st' k ∧ MFx g0 h' l e ∧ k ≤ 2010 := by
  have hn := A.2.1.1
  have hmx := tMx_b (n := n) (β := β) hn
  have hTm := tTk_m (n := n) (β := β) hn
  unfold aBd
  by_cases k2 : kd = 2
  · rw [if_pos k2, if_pos k2]
    have ev : (if v2 = 2 then (1 : Int32) else 0) = 1 := if_pos (by rw [hv, k2]; rfl)
    have gdV := gd_val (T := tTk n β) (P := tPl n β) hTm 11
    have bS : btS [] := by unfold btS; decide
    rcases smOu (F := F) (v1 := v1) (v2 := v2) (B := []) A (by omega) gdV (simV (F := F) A (by omega) 10 (by decide)) bS 401 [] h p s (by omega) (Or.inl rfl) M hs (by show s.2.2.length + 0 ≤ s.1; omega) hc with ⟨q, h2, p2, k, J, Mm, Cm, eq, r2, y3, y4, y5, y6, y7, y8⟩ | ⟨e, h2, st2, k, eq, r2, y3, y4⟩
    · obtain ⟨⟨l1, D, d1, d2, d3, d4, -⟩, nT, nP⟩ := gd_sum hTm gdV _ _ hs eq
      obtain ⟨g3, e3, M3⟩ := (hvM (F := F) A (by omega) (if v2 = 2 then 1 else 0) y3 y4 bS y5 y8 d1).2.2 nT nP
      have M3 : MC n β l g0 g3 (tPl n β q.1) [] q 0 0 := by
        have : (q.1, q.2.1, Cm ++ Mm ++ J) = q := by rw [← y6]
        rw [← this]
        exact M3
      obtain ⟨b1, b2'⟩ := hv2 (F := F) A M3 (Nat.zero_le _) (by decide)
      by_cases z : tTk n β q.1 = 10002 ∨ tTk n β q.1 = 10040
      · exact Or.inl ⟨q, g3, k + 1, eq, z, r2.tr (rn2 y5.z (by rw [ev] at e3 ⊢; exact e3.trans (b1 z))), M3, by omega⟩
      · obtain ⟨g4, e4, M4⟩ := b2' z
        exact Or.inr ⟨_, g4, 4, k + 1, Or.inr ⟨q, eq, z, rfl⟩, r2.tr (rn2 y5.z (by rw [ev] at e3 ⊢; exact e3.trans e4)), M4, by omega⟩
    · exact Or.inr ⟨e, h2, st2, k, Or.inl eq, r2, y3, by omega⟩
  · rw [if_neg k2, if_neg k2]
    have nv : ¬ v2 = 2 := fun z => by rw [hv] at z; exact k2 ((nI_eq (b := 2) (by omega) (by decide)).mp z)
    have gdF := gd_fact (P := tPl n β) hTm 11
    have oB : okB [] 0 := ⟨by unfold btT; decide, by decide, Or.inl rfl, Nat.le_refl _⟩
    rcases tsOu (F := F) (v1 := v1) (v2 := v2) (B := []) A (by omega) gdF (simF (F := F) A (by omega) nv 10 (by decide)) oB 401 [] h p s (by omega) (Or.inl rfl) M hs (by show s.2.2.length + 0 ≤ s.1; omega) hc with ⟨q, h2, p2, k, J, Mm, Cm, eq, r2, y3, y4, y5, y6, y7, y8⟩ | ⟨e, h2, st2, k, eq, r2, y3, y4⟩
    · obtain ⟨⟨l1, D, d1, d2, d3, d4, -⟩, nT, nP⟩ := gd_test hTm gdF _ _ hs eq
      have nO : ¬ tTk n β q.1 = 10028 := fun z => by rw [z] at nP; exact absurd nP (by decide)
      obtain ⟨g3, e3, M3⟩ := (hfM (F := F) A (by omega) y3 y4 oB.1 oB.2.1 y5 y8 d1).2.2 nT nO
      have M3 : MC n β l g0 g3 (tPl n β q.1) [] q 0 0 := by
        have : (q.1, q.2.1, Cm ++ Mm ++ J) = q := by rw [← y6]
        rw [← this]
        exact M3
      obtain ⟨b1, b2'⟩ := hf2 (F := F) A M3
      by_cases z : tTk n β q.1 = 10002 ∨ tTk n β q.1 = 10040
      · exact Or.inl ⟨q, g3, k + 1, eq, z, r2.tr (rn3 y5.z (e3.trans (b1 z))), M3, by omega⟩
      · obtain ⟨g4, e4, M4⟩ := b2' z
        exact Or.inr ⟨_, g4, 4, k + 1, Or.inr ⟨q, eq, z, rfl⟩, r2.tr (rn3 y5.z (e3.trans e4)), M4, by omega⟩
    · exact Or.inr ⟨e, h2, st2, k, Or.inl eq, r2, y3, by omega⟩
end MTF
