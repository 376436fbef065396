/-! laying, the model: all rows, one behind the other -/
theorem hsI_s (h : HS) (a k : Nat) (v : Int32) : hI (hsI h a k v) a k = v := if_pos ⟨rfl, rfl⟩
theorem hsI_n {h : HS} {a x k : Nat} {v : Int32} (e : ¬ x = a) : hI (hsI h a k v) x = hI h x := funext fun _ => if_neg (fun z => e z.1)
def bst (b : Nat) : Int32 := nI b - 1
theorem bst_lt {b f : Nat} (hb : b < 1000) (hf : f < 1000) : (bst b < nI f) = (b < f + 1) := by
  unfold bst
  cases b with
  | zero =>
    refine propext ⟨fun _ => by omega, fun _ => ?_⟩
    rw [Int32.lt_iff_toInt_lt, nI_toInt (by omega), show (nI 0 - 1).toInt = -1 by decide]
    omega
  | succ b => rw [nI_pred, lt_nI (by omega) (by omega)]; exact propext ⟨fun z => by omega, fun z => by omega⟩
theorem bst_eq {b f : Nat} (hb : b < 1000) (hf : f < 1000) : (nI f = bst b) = (f + 1 = b) := by
  unfold bst
  cases b with
  | zero =>
    refine propext ⟨fun z => ?_, fun _ => by omega⟩
    have := congrArg Int32.toInt z
    rw [nI_toInt (by omega), show (nI 0 - 1).toInt = -1 by decide] at this
    omega
  | succ b => rw [nI_pred, eq_nI (by omega) (by omega)]; exact propext ⟨fun z => by omega, fun z => by omega⟩
theorem lsw_le {σ : LYS} {c : Nat} : lsw σ c ≤ σ.2.1 := by unfold lsw; split <;> omega
theorem lst_le (φ : List Nat → Nat) (σ : LYS) (q : List Nat) : (lst φ σ q).2.1 ≤ σ.2.1 + 1 := by
  unfold lst
  split
  · exact Nat.succ_le_succ lsw_le
  · omega
theorem lst_1 {φ : List Nat → Nat} {σ : LYS} {q : List Nat} {B : Nat} (hφ : φ q + 1 ≤ B) (hs : σ.1 ≤ B) : (lst φ σ q).1 ≤ B := by
  unfold lst
  split
  · exact hφ
  · exact hs
def MSt (h0 h : HS) (m : Nat → Nat) (n : Nat) (σ : LYS) (v5 : Int32) : Prop := FR [92, 93, 94] [(86, 13)] nD h0 h ∧ v5 = bst σ.1 ∧ σ.1 ≤ 17 ∧ (0 < σ.1 → hI h 86 13 = nI σ.2.1) ∧ (0 < σ.2.1 → σ.2.2.1.length = n ∧ rowIs h 93 m σ.2.2.1) ∧ (1 < σ.2.1 → σ.2.2.2.length = n ∧ rowIs h 94 m σ.2.2.2)
section LA3
variable {s : SS} {h0 h : HS} {m : Nat → Nat} {n F : Nat}
theorem best93 {a0 a1 a2 v5 : Int32} (hn : n ≤ 8) (w : 160 ≤ h.1) (h13 : hI h 86 13 = nI 0) : ∀ (f j : Nat) (g : HS), j ≤ n → n - j < f → FR [93] [] nD h g → (∀ k, k < j → hI g 93 k = hI h 92 k) → ∃ h', FR [93] [] nD h h' ∧ (∀ k, k < n → hI h' 93 k = hI h 92 k) ∧ ∀ K, p201_L141 F a0 a1 a2 K f g (nI n) v5 (nI j) = p201_j200 F a0 a1 a2 K h' (nI n) v5 := by
  intro f
  induction f with
  | zero => intro j g _ z; omega
  | succ f ih =>
    intro j g hj hf fg hr
    by_cases hlt : j < n
    · have e13 : hI g 86 13 = nI 0 := (fg.fI w 86 13 (by decide)).trans h13
      obtain ⟨h', f', r', e'⟩ := ih (j + 1) (hsI g 93 j (hI g 92 j)) (by omega) (by omega) (fg.sI (Or.inl (by decide))) (fun k hk => by
        by_cases z : k = j
        · subst z
          refine (if_pos ⟨rfl, rfl⟩).trans ?_
          rw [fg.fA w 92 (by decide)]
        · exact (if_neg (fun y => z y.2)).trans (hr k (by omega)))
      refine ⟨h', f', r', fun K => ?_⟩
      rw [p201_L141, if_pos (nI_lt hlt (by omega)), e13, if_pos (show nI 0 < 2 by decide), if_pos (show nI 0 = 0 from rfl), nI_clamp (by omega), if_neg (nI_in' (by omega) (by decide)), if_neg (nI_in' (by omega) (by decide))]
      unfold p201_j194
      rw [nI_1]
      exact e' K
    · have : j = n := by omega
      subst this
      refine ⟨g, fg, hr, fun K => ?_⟩
      rw [p201_L141, if_neg Int32.lt_irrefl]
theorem best94 {a0 a1 a2 v5 : Int32} (hn : n ≤ 8) (w : 160 ≤ h.1) (h13 : hI h 86 13 = nI 1) : ∀ (f j : Nat) (g : HS), j ≤ n → n - j < f → FR [94] [] nD h g → (∀ k, k < j → hI g 94 k = hI h 92 k) → ∃ h', FR [94] [] nD h h' ∧ (∀ k, k < n → hI h' 94 k = hI h 92 k) ∧ ∀ K, p201_L141 F a0 a1 a2 K f g (nI n) v5 (nI j) = p201_j200 F a0 a1 a2 K h' (nI n) v5 := by
  intro f
  induction f with
  | zero => intro j g _ z; omega
  | succ f ih =>
    intro j g hj hf fg hr
    by_cases hlt : j < n
    · have e13 : hI g 86 13 = nI 1 := (fg.fI w 86 13 (by decide)).trans h13
      obtain ⟨h', f', r', e'⟩ := ih (j + 1) (hsI g 94 j (hI g 92 j)) (by omega) (by omega) (fg.sI (Or.inl (by decide))) (fun k hk => by
        by_cases z : k = j
        · subst z
          refine (if_pos ⟨rfl, rfl⟩).trans ?_
          rw [fg.fA w 92 (by decide)]
        · exact (if_neg (fun y => z y.2)).trans (hr k (by omega)))
      refine ⟨h', f', r', fun K => ?_⟩
      rw [p201_L141, if_pos (nI_lt hlt (by omega)), e13, if_pos (show nI 1 < 2 by decide), if_neg (show ¬ nI 1 = 0 by decide), nI_clamp (by omega), if_neg (nI_in' (by omega) (by decide)), if_neg (nI_in' (by omega) (by decide))]
      unfold p201_j194
      rw [nI_1]
      exact e' K
    · have : j = n := by omega
      subst this
      refine ⟨g, fg, hr, fun K => ?_⟩
      rw [p201_L141, if_neg Int32.lt_irrefl]
theorem MSt.row {σ : LYS} {v5 : Int32} {g : HS} (M : MSt h0 h m n σ v5) (w : 160 ≤ h.1) (f : FR [92] [] nD h g) : MSt h0 g m n σ v5 := by
  obtain ⟨m1, m2, m3, m4, m5, m6⟩ := M
  refine ⟨m1.tr (f.mo (by decide) (by decide) (fun _ z => z) nD160), m2, m3, fun z => (f.fI w 86 13 (by decide)).trans (m4 z), fun z => ⟨(m5 z).1, fun k hk => ?_⟩, fun z => ⟨(m6 z).1, fun k hk => ?_⟩⟩
  · rw [f.fA w 93 (by decide)]; exact (m5 z).2 k hk
  · rw [f.fA w 94 (by decide)]; exact (m6 z).2 k hk
theorem mProc {w v : Nat} (E : EV s h0) (S : SCc s h0) (hw : 0 < w) (hn0 : 0 < n) (hn : n ≤ 8) (ewv : w * v = n) (hF : 20 ≤ F) (ml : ∀ a, a < n → m a < s 0 2) {σ : LYS} {v5 : Int32} {q : List Nat} (M : MSt h0 h m n σ v5) (hl : q.length = n) (hb : ∀ k, k < n → q.getD k 0 < n) (hr : rowIs h 92 m q) (hB : σ.2.1 + 1 < 2 ^ 30) (a0 : Int32) : ∃ h' v', MSt h0 h' m n (lst (lphi h0 m w n) σ q) v' ∧ rowIs h' 92 m q ∧ ∀ k, p201_L102 F a0 (nI w) (nI v) (k + 1) h (nI n) v5 1 = Option.bind (p198 F h' (nI n)) fun r => p201_L102 F a0 (nI w) (nI v) k r.2 (nI n) v' r.1 := by
  obtain ⟨m1, m2, m3, m4, m5, m6⟩ := M
  have w0 := E.w.1
  have w1 : 160 ≤ h.1 := Nat.le_trans w0 m1.1
  have E1 : EV s h := E.fr m1 (by decide) evD_n
  have S1 : SCc s h := S.fr w0 m1 (by decide) (by decide)
  have j90 : hI h 90 = hI h0 90 := m1.fA w0 90 ⟨by decide, by decide, by decide⟩
  have j89 : hI h 89 = hI h0 89 := m1.fA w0 89 ⟨by decide, by decide, by decide⟩
  have jj : ∀ a b c, jn h a b c = jn h0 a b c := fun a b c => by unfold jn; rw [j90, j89]
  have hf : lphi h0 m w n q ≤ 16 := by
    unfold lphi fitC
    have := cnt_le (fun k => decide (0 < k % w) && jn h0 (rw0 m q (k - 1)) (rw0 m q k) 0) n
    have := cnt_le (fun k => decide (w ≤ k) && jn h0 (rw0 m q (k - w)) (rw0 m q k) 1) n
    omega
  have ef : p197 F h (nI w) (nI v) = some (nI (lphi h0 m w n q)) := by
    unfold p197
    have := fitM_L (r := rw0 m q) (w := w) (v := v) E1 S1 hw (by omega) (fun k hk => ⟨hr k (by omega), ml _ (hb k (by omega))⟩) F F 0 (by omega) (by omega)
    rw [show fitM h (rw0 m q) w (w * v) 0 = 0 from rfl, ← fit_eq h (rw0 m q) hw] at this
    rw [show p197_L5 F (nI w) (nI v) F h 0 0 = _ from this]
    unfold lphi fitC
    simp only [jj]
    rw [ewv]
  generalize hφ : lphi h0 m w n q = f at *
  have main : ∀ (g : HS) (W : Nat), FR [92, 93, 94] [(86, 13)] nD h0 g → hI g 92 = hI h 92 → hI g 86 13 = nI W → W < 2 ^ 30 → (0 < W → σ.2.2.1.length = n ∧ rowIs g 93 m σ.2.2.1) → (1 < W → σ.2.2.2.length = n ∧ rowIs g 94 m σ.2.2.2) → ∃ h', MSt h0 h' m n (f + 1, W + 1, if W = 0 then q else σ.2.2.1, if W = 1 then q else σ.2.2.2) (nI f) ∧ rowIs h' 92 m q ∧ ∀ k, p201_L141 F a0 (nI w) (nI v) (p201_L102 F a0 (nI w) (nI v) k) F g (nI n) (nI f) 0 = Option.bind (p198 F h' (nI n)) fun r => p201_L102 F a0 (nI w) (nI v) k r.2 (nI n) (nI f) r.1 := by
    intro g W fg g92 g13 hW g93 g94
    have wg : 160 ≤ g.1 := Nat.le_trans w0 fg.1
    have fin : ∀ (g2 : HS), FR [93, 94] [] nD g g2 → (0 < W + 1 → (if W = 0 then q else σ.2.2.1).length = n ∧ rowIs g2 93 m (if W = 0 then q else σ.2.2.1)) → (1 < W + 1 → (if W = 1 then q else σ.2.2.2).length = n ∧ rowIs g2 94 m (if W = 1 then q else σ.2.2.2)) → ∃ h', MSt h0 h' m n (f + 1, W + 1, if W = 0 then q else σ.2.2.1, if W = 1 then q else σ.2.2.2) (nI f) ∧ rowIs h' 92 m q ∧ ∀ k, p201_j200 F a0 (nI w) (nI v) (p201_L102 F a0 (nI w) (nI v) k) g2 (nI n) (nI f) = Option.bind (p198 F h' (nI n)) fun r => p201_L102 F a0 (nI w) (nI v) k r.2 (nI n) (nI f) r.1 := by
      intro g2 fg2 a b
      have e13 : hI g2 86 13 = nI W := (fg2.fI wg 86 13 (by decide)).trans g13
      refine ⟨hsI g2 86 13 (nI W + 1), ⟨(fg.tr (fg2.mo (by decide) (by decide) (fun _ z => z) nD160)).sI (Or.inr (Or.inr (Or.inl (by decide)))), by unfold bst; rw [nI_pred], by show f + 1 ≤ 17; omega, fun _ => ?_, ?_, ?_⟩, ?_, ?_⟩
      · rw [nI_1]; exact hsI_s _ _ _ _
      · intro z; exact ⟨(a z).1, fun j hj => by rw [hsI_n (by decide)]; exact (a z).2 j hj⟩
      · intro z; exact ⟨(b z).1, fun j hj => by rw [hsI_n (by decide)]; exact (b z).2 j hj⟩
      · intro j hj
        rw [hsI_n (by decide), fg2.fA wg 92 (by decide), g92]
        exact hr j hj
      · intro k
        unfold p201_j200 p201_j210
        rw [e13]
    by_cases z0 : W = 0
    · subst z0
      obtain ⟨g2, f2, r2, e2⟩ := best93 (F := F) (a0 := a0) (a1 := nI w) (a2 := nI v) (v5 := nI f) hn wg g13 F 0 g (by omega) (by omega) (FR.rf nD160) (fun j z => by omega)
      obtain ⟨h', a1, a2, a3⟩ := fin g2 (f2.mo (by decide) (by decide) (fun _ z => z) nD160) (fun _ => ⟨by rw [if_pos rfl]; exact hl, by
        rw [if_pos rfl]
        intro j hj
        rw [r2 j (by omega), g92]
        exact hr j hj⟩) (fun z => absurd z (by omega))
      exact ⟨h', a1, a2, fun k => (e2 _).trans (a3 k)⟩
    · by_cases z1 : W = 1
      · subst z1
        obtain ⟨g2, f2, r2, e2⟩ := best94 (F := F) (a0 := a0) (a1 := nI w) (a2 := nI v) (v5 := nI f) hn wg g13 F 0 g (by omega) (by omega) (FR.rf nD160) (fun j z => by omega)
        obtain ⟨h', a1, a2, a3⟩ := fin g2 (f2.mo (by decide) (by decide) (fun _ z => z) nD160) (fun _ => by
          rw [if_neg (by decide)]
          obtain ⟨x1, x2⟩ := g93 (by decide)
          exact ⟨x1, fun j hj => by rw [f2.fA wg 93 (by decide)]; exact x2 j hj⟩) (fun _ => ⟨by rw [if_pos rfl]; exact hl, by
          rw [if_pos rfl]
          intro j hj
          rw [r2 j (by omega), g92]
          exact hr j hj⟩)
        exact ⟨h', a1, a2, fun k => (e2 _).trans (a3 k)⟩
      · obtain ⟨F', rfl⟩ : ∃ F', F = F' + 1 := ⟨F - 1, by omega⟩
        obtain ⟨h', a1, a2, a3⟩ := fin g (FR.rf nD160) (fun _ => by rw [if_neg z0]; exact g93 (by omega)) (fun _ => by rw [if_neg z1]; exact g94 (by omega))
        refine ⟨h', a1, a2, fun k => Eq.trans ?_ (a3 k)⟩
        rw [p201_L141, show (0 : Int32) = nI 0 from rfl, if_pos (nI_lt hn0 (by omega)), g13, if_neg (show ¬ nI W < 2 from nI_nlt (a := W) (b := 2) (by omega) (by omega))]
  have st : ∀ k, p201_L102 F a0 (nI w) (nI v) (k + 1) h (nI n) v5 1 = if v5 < nI f then p201_j131 F a0 (nI w) (nI v) (p201_L102 F a0 (nI w) (nI v) k) (hsI h 86 13 0) (nI n) (nI f) (nI f) else p201_j131 F a0 (nI w) (nI v) (p201_L102 F a0 (nI w) (nI v) k) h (nI n) v5 (nI f) := by
    intro k
    rw [p201_L102, if_neg (show ¬ (1 : Int32) = 0 by decide), ef, ob]
  simp only [st]
  rw [m2]
  simp only [bst_lt (show σ.1 < 1000 by omega) (show f < 1000 by omega)]
  unfold lst
  rw [hφ]
  by_cases c1 : σ.1 < f + 1
  · rw [if_pos (by omega), show lsw σ f = 0 from if_pos c1]
    obtain ⟨h', a1, a2, a3⟩ := main (hsI h 86 13 0) 0 (m1.sI (Or.inr (Or.inr (Or.inl (by decide))))) (hsI_n (by decide)) (hsI_s _ _ _ _) (by decide) (fun z => absurd z (by decide)) (fun z => absurd z (by decide))
    refine ⟨h', _, a1, a2, fun k => ?_⟩
    rw [if_pos c1]
    unfold p201_j131
    rw [if_pos rfl]
    exact a3 k
  · by_cases c2 : f + 1 = σ.1
    · rw [if_pos (by omega), show lsw σ f = σ.2.1 from if_neg c1]
      obtain ⟨h', a1, a2, a3⟩ := main h σ.2.1 m1 rfl (m4 (by omega)) (by omega) m5 m6
      have eb : bst σ.1 = nI f := by rw [← c2]; unfold bst; rw [nI_pred]
      refine ⟨h', _, a1, a2, fun k => ?_⟩
      rw [if_neg c1]
      unfold p201_j131
      rw [eb, if_pos rfl]
      exact a3 k
    · rw [if_neg (by omega)]
      refine ⟨h, bst σ.1, ⟨m1, rfl, m3, m4, m5, m6⟩, hr, fun k => ?_⟩
      rw [if_neg c1]
      unfold p201_j131
      rw [if_neg (fun z => c2 ((bst_eq (by omega) (by omega)).mp z))]
      rfl
theorem blk_le {φ : List Nat → Nat} : ∀ (r : Nat) (p : List Nat) (σ : LYS) (U : List Nat), U.length = r → (blk φ r p σ U).2.1 ≤ σ.2.1 + fct r := by
  intro r
  induction r with
  | zero => intro p σ U _; exact lst_le φ σ p
  | succ r ih =>
    intro p σ U hU
    have : ∀ (l : List Nat) (σ : LYS), (∀ y, y ∈ l → y ∈ U) → (l.foldl (fun σ x => blk φ r (p ++ [x]) σ (U.erase x)) σ).2.1 ≤ σ.2.1 + l.length * fct r := by
      intro l
      induction l with
      | nil => intro σ _; exact Nat.le_add_right _ _
      | cons y l ihl =>
        intro σ hm
        rw [List.foldl_cons, List.length_cons, Nat.add_mul]
        have a := ihl (blk φ r (p ++ [y]) σ (U.erase y)) (fun z mz => hm z (List.mem_cons_of_mem _ mz))
        have b := ih (p ++ [y]) σ (U.erase y) (le_e (hm y (List.mem_cons_self ..)) hU)
        omega
    have := this U σ (fun y my => my)
    rw [hU] at this
    exact this
/-- from a rising rest to a falling one: all its ways -/
theorem enum {w v : Nat} (E : EV s h0) (S : SCc s h0) (hw : 0 < w) (hn0 : 0 < n) (hn : n ≤ 8) (ewv : w * v = n) (hF : 20 ≤ F) (mo : ∀ a b, a < b → b < n → m a < m b) (ml : ∀ a, a < n → m a < s 0 2) (a0 : Int32) : ∀ (r : Nat) (U pre : List Nat) (σ : LYS) (h : HS) (v5 : Int32), U.length = r → (pre ++ U).length = n → (∀ x, x ∈ pre ++ U → x < n) → U.Pairwise (fun a b => a < b) → MSt h0 h m n σ v5 → rowIs h 92 m (pre ++ U) → σ.2.1 + fct r < 2 ^ 30 → ∃ h' v', MSt h0 h' m n (blk (lphi h0 m w n) r pre σ U) v' ∧ rowIs h' 92 m (pre ++ U.reverse) ∧ ∀ k, p201_L102 F a0 (nI w) (nI v) (k + fct r) h (nI n) v5 1 = Option.bind (p198 F h' (nI n)) fun r => p201_L102 F a0 (nI w) (nI v) k r.2 (nI n) v' r.1 := by
  have b2 := E.cn.b2
  intro r
  induction r with
  | zero =>
    intro U pre σ h v5 hU hl hb hp M hr hB
    have e : U = [] := List.length_eq_zero_iff.mp hU
    subst e
    rw [List.append_nil] at hl hb hr
    have hb' : ∀ k, k < n → pre.getD k 0 < n := fun k hk => by rw [gd_l (by omega)]; exact hb _ (List.getElem_mem _)
    rw [List.reverse_nil, List.append_nil]
    exact mProc (F := F) E S hw hn0 hn ewv hF ml M hl hb' hr (by show σ.2.1 + 1 < 2 ^ 30; exact hB) a0
  | succ r ih =>
    intro U pre σ h v5 hU hl hb hp M hr hB
    have nd : U.Nodup := hp.imp (fun z => Nat.ne_of_lt z)
    have inner : ∀ (U2 U1 : List Nat) (x : Nat) (σ : LYS) (h : HS) (v5 : Int32), U = U1 ++ x :: U2 → MSt h0 h m n σ v5 → rowIs h 92 m (pre ++ x :: (U1 ++ U2)) → σ.2.1 + (U2.length + 1) * fct r < 2 ^ 30 → ∃ h' v', MSt h0 h' m n ((x :: U2).foldl (fun σ x => blk (lphi h0 m w n) r (pre ++ [x]) σ (U.erase x)) σ) v' ∧ rowIs h' 92 m (pre ++ U.reverse) ∧ ∀ k, p201_L102 F a0 (nI w) (nI v) (k + (U2.length + 1) * fct r) h (nI n) v5 1 = Option.bind (p198 F h' (nI n)) fun r => p201_L102 F a0 (nI w) (nI v) k r.2 (nI n) v' r.1 := by
      intro U2
      induction U2 with
      | nil =>
        intro U1 x σ h v5 eU M hr hB
        rw [List.append_nil] at hr
        have nx : ¬ x ∈ U1 := fun z => by
          rw [eU, List.nodup_append] at nd
          exact nd.2.2 x z x (List.mem_cons_self ..) rfl
        have ee : U.erase x = U1 := by rw [eU, List.erase_append_right _ nx, List.erase_cons_head, List.append_nil]
        have hp1 : U1.Pairwise (fun a b => a < b) := by rw [eU] at hp; exact (List.pairwise_append.mp hp).1
        have l1 : U1.length = r := by rw [eU] at hU; simp at hU; omega
        obtain ⟨h', v', a1, a2, a3⟩ := ih U1 (pre ++ [x]) σ h v5 l1 (by rw [la_ap]; rw [eU] at hl; simp at hl ⊢; omega) (fun y hy => hb y (by
          rw [la_ap] at hy
          rw [eU]
          simp only [List.mem_append, List.mem_cons] at hy ⊢
          rcases hy with z | z | z
          · exact Or.inl z
          · exact Or.inr (Or.inr (Or.inl z))
          · exact Or.inr (Or.inl z))) hp1 M (by rw [la_ap]; exact hr) (by simp at hB; omega)
        refine ⟨h', v', ?_, ?_, fun k => ?_⟩
        · rw [List.foldl_cons, List.foldl_nil, ee]; exact a1
        · rw [la_ap] at a2
          rw [eU, List.reverse_append]
          exact a2
        · rw [List.length_nil, Nat.zero_add, Nat.one_mul]
          exact a3 k
      | cons y U2 ih2 =>
        intro U1 x σ h v5 eU M hr hB
        have nx : ¬ x ∈ U1 := fun z => by
          rw [eU, List.nodup_append] at nd
          exact nd.2.2 x z x (List.mem_cons_self ..) rfl
        have ee : U.erase x = U1 ++ y :: U2 := by rw [eU, List.erase_append_right _ nx, List.erase_cons_head]
        have hpA := List.pairwise_append.mp (by rw [eU] at hp; exact hp : (U1 ++ x :: y :: U2).Pairwise (fun a b => a < b))
        have hpB := List.pairwise_cons.mp hpA.2.1
        have hp1 : (U1 ++ y :: U2).Pairwise (fun a b => a < b) := List.pairwise_append.mpr ⟨hpA.1, hpB.2, fun a ha b hb => hpA.2.2 a ha b (List.mem_cons_of_mem _ hb)⟩
        have l1 : (U1 ++ y :: U2).length = r := by rw [eU] at hU; simp at hU ⊢; omega
        have hB' : σ.2.1 + fct r + (U2.length + 1) * fct r < 2 ^ 30 := by rw [List.length_cons, Nat.add_mul (U2.length + 1)] at hB; omega
        have lp : (pre ++ x :: (U1 ++ y :: U2)).length = n := by rw [eU] at hl; simp at hl ⊢; omega
        have bp : ∀ z, z ∈ pre ++ x :: (U1 ++ y :: U2) → z < n := fun z hz => hb z (by
          rw [eU]
          simp only [List.mem_append, List.mem_cons] at hz ⊢
          rcases hz with z | z | z | z | z
          · exact Or.inl z
          · exact Or.inr (Or.inr (Or.inl z))
          · exact Or.inr (Or.inl z)
          · exact Or.inr (Or.inr (Or.inr (Or.inl z)))
          · exact Or.inr (Or.inr (Or.inr (Or.inr z))))
        obtain ⟨h1, v1, a1, a2, a3⟩ := ih (U1 ++ y :: U2) (pre ++ [x]) σ h v5 l1 (by rw [la_ap]; exact lp) (fun z hz => bp z (by rw [la_ap] at hz; exact hz)) hp1 M (by rw [la_ap]; exact hr) (by omega)
        have w1 : 160 ≤ h1.1 := Nat.le_trans E.w.1 a1.1.1
        have er : (U1 ++ y :: U2).reverse = U2.reverse ++ y :: U1.reverse := by simp
        rw [la_ap, er] at a2
        have pr : (U2.reverse ++ y :: U1.reverse).Pairwise (fun a b => b < a) := by rw [← er]; exact List.pairwise_reverse.mpr hp1
        have lq : (pre ++ x :: (U2.reverse ++ y :: U1.reverse)).length = n := by rw [← lp]; simp; omega
        obtain ⟨h2, e2, f2, r2⟩ := gon (h := h1) (m := m) (n := n) (F := F) mo (fun a ha => by have := ml a ha; omega) hn (by omega) (pre := pre) (A := U2.reverse) (C := U1.reverse) (x := x) (y := y) lq (fun k hk => by
          rw [gd_l (by omega)]
          refine bp _ ?_
          have := List.getElem_mem (l := pre ++ x :: (U2.reverse ++ y :: U1.reverse)) (n := k) (by omega)
          simp only [List.mem_append, List.mem_cons, List.mem_reverse] at this ⊢
          rcases this with z | z | z | z | z
          · exact Or.inl z
          · exact Or.inr (Or.inl z)
          · exact Or.inr (Or.inr (Or.inr (Or.inr z)))
          · exact Or.inr (Or.inr (Or.inr (Or.inl z)))
          · exact Or.inr (Or.inr (Or.inl z))) a2 pr (hpB.1 y (List.mem_cons_self ..)) (fun z hz => hpA.2.2 z (List.mem_reverse.mp hz) x (List.mem_cons_self ..))
        have er2 : (U2.reverse ++ x :: U1.reverse).reverse = (U1 ++ [x]) ++ U2 := by simp
        rw [er2] at r2
        obtain ⟨h3, v3, b1, b2, b3⟩ := ih2 (U1 ++ [x]) y _ h2 v1 (by rw [eU]; simp) (a1.row w1 f2) r2 (by
          have := blk_le (φ := lphi h0 m w n) r (pre ++ [x]) σ (U1 ++ y :: U2) l1
          omega)
        refine ⟨h3, v3, ?_, b2, fun k => ?_⟩
        · rw [List.foldl_cons, ee]; exact b1
        · rw [List.length_cons, Nat.add_mul (U2.length + 1), Nat.one_mul, ← Nat.add_assoc, a3, e2, ob]
          exact b3 k
    obtain ⟨x, T, rfl⟩ : ∃ x T, U = x :: T := by
      cases U with
      | nil => cases hU
      | cons x T => exact ⟨x, T, rfl⟩
    have hT : T.length = r := by simpa using hU
    obtain ⟨h', v', a1, a2, a3⟩ := inner T [] x σ h v5 rfl M hr (by rw [hT]; exact hB)
    rw [hT] at a3
    exact ⟨h', v', a1, a2, a3⟩
end LA3
