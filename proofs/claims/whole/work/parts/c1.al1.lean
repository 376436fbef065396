/-! families one by one, out of all -/
section AL1
variable {s t : SS} {h g : HS} {W : List Nat} {K : List (Nat × Nat)} {D : Nat → Prop}
theorem AL.e (A : AL s h) : EV s h := A.1.1
theorem AL.w (A : AL s h) : 160 ≤ h.1 := A.1.1.w.1
theorem AL.di (A : AL s h) : DI s := A.1.2.1
theorem AL.sc0 (A : AL s h) : SCc s h := A.1.2.2.1
theorem AL.la0 (A : AL s h) : LAc s h := A.1.2.2.2.1
theorem AL.ct0 (A : AL s h) : CTc s h := A.1.2.2.2.2.1
theorem AL.rw0 (A : AL s h) : RWc h := A.1.2.2.2.2.2.1
theorem AL.zs0 (A : AL s h) : ZSc s h := A.1.2.2.2.2.2.2
theorem AL.lt0 (A : AL s h) : LTr h (s 50 0) (s 50 1) (s 0 2) := A.2.1
theorem AL.tp0 (A : AL s h) : TPc s h := A.2.2.1
theorem AL.rd0 (A : AL s h) : RDc s h := A.2.2.2.1
theorem AL.ln0 (A : AL s h) : LNc s h := A.2.2.2.2.1
theorem AL.lw0 (A : AL s h) : LWc s h := A.2.2.2.2.2.1
theorem AL.of0 (A : AL s h) : OFc s h := A.2.2.2.2.2.2.1
theorem AL.or0 (A : AL s h) : ORc s h := A.2.2.2.2.2.2.2.1
theorem AL.fa0 (A : AL s h) : FAc h := A.2.2.2.2.2.2.2.2.1.1
theorem AL.st0 (A : AL s h) : STc h := A.2.2.2.2.2.2.2.2.1.2
theorem AL.w30 (A : AL s h) : hI h 32 1 = hI h 86 73 := A.2.2.2.2.2.2.2.2.2
theorem AL.sc (A : AL s h) (f : FR W K D h g) (ok : frO scI W K ∧ ¬ 38 ∈ W) (e1 : t 0 1 = s 0 1) (e2 : t 0 2 = s 0 2) (e3 : s 0 3 ≤ t 0 3) : SCc t g := (A.sc0.fr A.w f ok.1 ok.2).k (fun _ _ => rfl) rfl e1 e2 e3
theorem AL.la (A : AL s h) (f : FR W K D h g) (ok : frO (39 :: laI) W K ∧ ¬ 86 ∈ W ∧ ¬ (86, 12) ∈ K ∧ ¬ (86, 13) ∈ K) (e : t 50 = s 50) : LAc t g := (A.la0.fr A.w f ok.1 ok.2).k (fun _ _ => rfl) rfl rfl e
theorem AL.ct (A : AL s h) (f : FR W K D h g) (ok : wl W K) (dd : ∀ i, i < s 0 3 → ¬ D (s 30 i)) (e3 : t 0 3 = s 0 3) (e7 : t 0 7 = s 0 7) (e8 : t 0 8 = s 0 8) (e30 : t 30 = s 30) (e12 : t 12 = s 12) (e21 : t 21 = s 21) : CTc t g := (A.ct0.fr A.e f ok dd).k (fun _ _ => ⟨rfl, rfl⟩) e3 e7 e8 e30 e12 e21
theorem AL.rw (A : AL s h) (f : FR W K D h g) (ok : frO rwI W K) : RWc g := A.rw0.fr A.w f ok
theorem AL.zs (A : AL s h) (f : FR W K D h g) (ok : frO [98, 99] W K) (e : t 0 3 = s 0 3) : ZSc t g := fun i hi => A.zs0.fr A.w f ok i (by rw [← e]; exact hi)
theorem AL.lt (A : AL s h) (f : FR W K D h g) (ok : frO [46, 47] W K) (e50 : t 50 = s 50) (e2 : s 0 2 ≤ t 0 2) : LTr g (t 50 0) (t 50 1) (t 0 2) := by
  rw [e50]
  exact A.lt0.fr A.w f ok e2
theorem AL.tp (A : AL s h) (f : FR W K D h g) (ok : frO [58, 126] W K) (e : t 0 12 ≤ s 0 12) : TPc t g := A.tp0.fr A.w f ok e
theorem AL.rd (A : AL s h) (f : FR W K D h g) (ok : wl W K ∧ ¬ 67 ∈ W ∧ frO [141, 142, 143, 144, 145] W K) (dd : ∀ i, i < s 0 10 → ¬ D (s 35 i)) (e10 : t 0 10 = s 0 10) (e35 : t 35 = s 35) (e4 : s 0 4 ≤ t 0 4) (e3 : s 0 3 ≤ t 0 3) (e30 : ∀ k, k < s 0 3 → t 30 k = s 30 k) : RDc t g := A.rd0.fr A.w f ok dd e10 e35 e4 e3 e30
theorem AL.ln (A : AL s h) (f : FR W K D h g) (ok : wl W K ∧ ¬ 138 ∈ W ∧ frO [139, 140, 146] W K) (dd : ∀ i, i < s 0 3 → ∀ k, 1 ≤ k → k < 6 → ¬ D (s 30 i + k)) (e3 : t 0 3 = s 0 3) (e5 : t 5 = s 5) (e30 : t 30 = s 30) (e4 : s 0 4 ≤ t 0 4) : LNc t g := A.ln0.f2 A.e f ok dd e3 e5 e30 e4
theorem LWc.s5 (L : LWc s h) (e9 : t 0 9 = s 0 9) (e : ∀ r, 34 ≤ r → ¬ r = 50 → ¬ r = 35 → t r = s r) (d : ∀ l i, l < s 0 9 → i < t 0 3 → s 34 l + 6 ≤ t 30 i ∨ t 30 i + 6 ≤ s 34 l) : LWc t h := by
  obtain ⟨L1, L2, -⟩ := L
  refine ⟨fun l hl => ?_, fun l m hl hm => ?_, fun l i hl hi => ?_⟩
  · rw [e9] at hl
    exact lwP.st (s' := t) (h := h) (L1 l hl) (by rw [e 34 (by decide) (by decide) (by decide)]) (by rw [e 45 (by decide) (by decide) (by decide)]) (by rw [e 46 (by decide) (by decide) (by decide)]) (by rw [e 47 (by decide) (by decide) (by decide)]) (e _ (by omega) (by omega) (by omega)) (e _ (by omega) (by omega) (by omega)) (e _ (by omega) (by omega) (by omega)) (e _ (by omega) (by omega) (by omega))
  · rw [e9] at hl hm
    rw [e 34 (by decide) (by decide) (by decide)]
    exact L2 l m hl hm
  · rw [e9] at hl
    rw [e 34 (by decide) (by decide) (by decide)]
    exact d l i hl hi
theorem AL.lw' (A : AL s h) (f : FR W K D h g) (ok : wl W K ∧ ¬ 66 ∈ W ∧ frO [127, 128, 129, 130, 131, 132, 133, 134] W K) (dd : ∀ l, l < s 0 9 → ∀ k, k < 6 → ¬ k = 1 → ¬ D (s 34 l + k)) (e9 : t 0 9 = s 0 9) (e : ∀ r, 34 ≤ r → ¬ r = 50 → ¬ r = 35 → t r = s r) (d : ∀ l i, l < s 0 9 → i < t 0 3 → s 34 l + 6 ≤ t 30 i ∨ t 30 i + 6 ≤ s 34 l) : LWc t g := (A.lw0.fr A.w f ok dd).s5 e9 e d
theorem AL.lw (A : AL s h) (f : FR W K D h g) (ok : wl W K ∧ ¬ 66 ∈ W ∧ frO [127, 128, 129, 130, 131, 132, 133, 134] W K) (dd : ∀ l, l < s 0 9 → ∀ k, k < 6 → ¬ k = 1 → ¬ D (s 34 l + k)) (e9 : t 0 9 = s 0 9) (e : ∀ r, 34 ≤ r → ¬ r = 50 → ¬ r = 35 → t r = s r) (e3 : t 0 3 = s 0 3) (e30 : t 30 = s 30) : LWc t g := A.lw' f ok dd e9 e (fun l i hl hi => by rw [e30]; rw [e3] at hi; exact A.lw0.2.2 l i hl hi)
theorem AL.of (A : AL s h) (f : FR W K D h g) (ok : frO [149, 150, 151, 152, 72, 153, 101] W K) (e11 : t 0 11 = s 0 11) (e4 : t 0 4 = s 0 4) (e6 : s 0 6 ≤ t 0 6) : OFc t g := A.of0.fr A.w f ok e11 e4 e6
theorem AL.orc (A : AL s h) (f : FR W K D h g) (ok : frO [154, 155, 80, 158] W K ∧ ¬ 77 ∈ W ∧ ¬ 86 ∈ W ∧ ¬ (77, 4) ∈ K ∧ ¬ (86, 92) ∈ K) (e : t 0 13 = s 0 13) : ORc t g := A.or0.fr A.w f ok e
theorem AL.ctf (A : AL s h) (f : FR W K D h g) (ok : ctOK W K) : FAc g ∧ STc g := CT.fr ⟨A.fa0, A.st0⟩ A.w f ok
theorem AL.w3 (A : AL s h) (f : FR W K D h g) (ok : ¬ 32 ∈ W ∧ ¬ 86 ∈ W ∧ ¬ (32, 1) ∈ K ∧ ¬ (86, 73) ∈ K) : hI g 32 1 = hI g 86 73 := w32_fr A.w30 A.w f ok
theorem AL.stk (A : AL s h) : evD s (stk s) ∧ anD s (stk s) := ⟨stk_evD A.e A.lw0, stk_an A.e A.rd0 A.lw0⟩
/-! calls that leave the state as it is -/
def CQ {α : Type} (h : HS) (c : Option α) (m : Option (α × HS)) : Prop := ∃ v g, c = some v ∧ m = some (v, g) ∧ AX g ∧ GR h g
def CP {α : Type} (c m : Option α) : Prop := ∃ v, c = some v ∧ m = some v
theorem CO.n {α : Type} {c : Option (α × HS)} {m : HS → Option (α × HS)} (A : AL s h) (v : α) (e1 : c = some (v, h)) (e2 : m h = some (v, h)) : CO h c m := ⟨v, h, h, e1, e2, ⟨s, A⟩, GR.rf h⟩
variable {F : Nat}
theorem al_judged (A : AL s h) (hF : 50000 ≤ F) (a b : Int32) (x : Int64) : CO h (p121 F h a b x) (fun g => p203 F g a b x) := by
  obtain ⟨v, h1, h2, e1, e2, f⟩ := w_judged (F := F) A.e A.sc0 (by omega) a b x
  exact ⟨v, h1, h2, e1, e2, ⟨s, A.fr f ⟨⟨by decide, by decide, by decide, by decide, by decide⟩, ⟨by decide, by decide, by decide, by decide⟩⟩ ⟨evD_n, anD_n⟩⟩, GR.z A.w f (by decide)⟩
theorem al_next (A : AL s h) (hF : 50000 ≤ F) (a : Int32) : CO h (p137 F h a) (fun g => p234 F g a) := by
  obtain ⟨v, h1, h2, e1, e2, f⟩ := w_next (F := F) A.e (by omega) a
  exact ⟨v, h1, h2, e1, e2, ⟨s, A.fr f ⟨⟨by decide, by decide, by decide, by decide, by decide⟩, ⟨by decide, by decide, by decide, by decide⟩⟩ ⟨evD_n, anD_n⟩⟩, GR.z A.w f (by decide)⟩
theorem al_together (A : AL s h) (hF : 50000 ≤ F) (a b c : Int32) : CQ h (p154 F h a b c) (p291 F h a b c) := by
  obtain ⟨v, g, e1, e2, f⟩ := w_together (F := F) A.e A.ln0 (by omega) a b c
  exact ⟨v, g, e1, e2, ⟨s, A.fr f ⟨⟨by decide, by decide, by decide, by decide, by decide⟩, ⟨by decide, by decide, by decide, by decide⟩⟩ ⟨evD_n, anD_n⟩⟩, GR.z A.w f (by decide)⟩
theorem al_turn (A : AL s h) (hF : 50000 ≤ F) (a : Int32) : CO h (p151 F h a) (fun g => p287 F g a) := by
  obtain ⟨v, h1, h2, e1, e2, f⟩ := w_turn (F := F) A.e A.rd0 A.ln0.1 A.lw0 (by omega) a
  exact ⟨v, h1, h2, e1, e2, ⟨s, A.fr f ⟨⟨by decide, by decide, by decide, by decide, by decide⟩, ⟨by decide, by decide, by decide, by decide⟩⟩ A.stk⟩, GR.z A.w f (by decide)⟩
theorem al_need (A : AL s h) (hF : 50000 ≤ F) (a b : Int32) : CO h (p157 F h a b) (fun g => p294 F g a b) := by
  obtain ⟨v, h1, h2, e1, e2, f⟩ := w_need (F := F) A.e A.lw0 (by omega) a b
  exact ⟨v, h1, h2, e1, e2, ⟨s, A.fr f ⟨⟨by decide, by decide, by decide, by decide, by decide⟩, ⟨by decide, by decide, by decide, by decide⟩⟩ A.stk⟩, GR.z A.w f (by decide)⟩
theorem al_stands (A : AL s h) (hF : 50000 ≤ F) (a b : Int32) : CO h (p156 F h a b) (fun g => p296 F g a b) := by
  obtain ⟨v, h1, h2, e1, e2, f⟩ := w_stands (F := F) A.e A.lw0 A.rw0 A.of0 (by omega) a b
  exact ⟨v, h1, h2, e1, e2, ⟨s, A.fr f ⟨⟨by decide, by decide, by decide, by decide, by decide⟩, ⟨by decide, by decide, by decide, by decide⟩⟩ A.stk⟩, GR.z A.w f (by decide)⟩
theorem al_may (A : AL s h) (hF : 50000 ≤ F) (a b c : Int32) : CO h (p148 F h a b c) (fun g => p283 F g a b c) := by
  obtain ⟨v, h1, h2, e1, e2, f, hw⟩ := w_may (F := F) A.e A.rd0 A.ln0.1 A.lw0 A.w30 (by omega) a b c
  obtain ⟨d1, d2⟩ := A.stk
  refine ⟨v, h1, h2, e1, e2, ⟨s, A.1.fr f ⟨by decide, by decide, by decide, by decide, by decide⟩ d1, A.lt f (by decide) rfl (Nat.le_refl _), A.tp f (by decide) (Nat.le_refl _), A.rd f (by decide) d2.1 rfl rfl (Nat.le_refl _) (Nat.le_refl _) (fun _ _ => rfl), A.ln f (by decide) d2.2.1 rfl rfl rfl (Nat.le_refl _), A.lw f (by decide) d2.2.2 rfl (fun _ _ _ _ => rfl) rfl rfl, A.of f (by decide) rfl rfl (Nat.le_refl _), A.orc f (by decide) rfl, A.ctf f (by decide), hw⟩, GR.z A.w f (by decide)⟩
end AL1
