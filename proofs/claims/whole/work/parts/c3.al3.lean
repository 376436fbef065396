/-! the first calls keep all families -/
section AL3
variable {s : SS} {h : HS} {F : Nat}
theorem anD_T (A : AL s h) {D : Nat → Prop} (hD : ∀ x, D x → hT h x = 5 ∨ hT h x = 9) : anD s D := by
  have E := A.e
  refine ⟨fun i hi z => ?_, fun i hi k k1 k6 z => ?_, fun l hl k k6 k1 z => ?_⟩
  · have t := hD _ z
    have := (A.rd0.1 i hi).2.1
    omega
  · have t := hD _ z
    have t1 := (E.sh.t1 hi).1
    have t2 := (E.sh.t2 hi).1
    have t3 := (E.sh.t3 hi).1
    have t4 := (E.sh.t4 hi).1
    have t5 := (E.sh.t5 hi).1
    rcases (show k = 1 ∨ k = 2 ∨ k = 3 ∨ k = 4 ∨ k = 5 by omega) with rfl | rfl | rfl | rfl | rfl <;> omega
  · have t := hD _ z
    obtain ⟨P, Q, -⟩ := A.lw0.1 l hl
    have t0 : hT h (s 34 l + 0) = 1 := P.2.1
    obtain ⟨-, -, -, -, -, t1, t2, t3, t4, t5⟩ := Q
    rcases (show k = 0 ∨ k = 2 ∨ k = 3 ∨ k = 4 ∨ k = 5 by omega) with rfl | rfl | rfl | rfl | rfl <;> omega
theorem anD_o (A : AL s h) {o : Nat} (ht : hT h o = 5 ∨ hT h o = 9) : anD s (fun x => x = o) := anD_T A (fun x z => by rw [z]; exact ht)
theorem al_clock (A : AL s h) (a : Int32) : CO h (p114 h a) (fun g => p190 g a) := by
  rcases w_clock A.e a with ⟨v, e1, e2⟩ | ⟨n, v, h1, hn1, hn2, ha, e1, e2⟩
  · exact CO.n A v e1 e2
  · have E := A.e
    exact ⟨v, h1, _, e1, e2, ⟨u2 s 0 0 n, ⟨ev_clock E hn2, A.di.k (by first | rfl | exact Nat.le_refl _ | (simp (disch := omega) only [u2_u, u2_ne, u1_ne, u1_eq, u2_rowne, Nat.le_refl]; done) | (simp (disch := omega) only [u2_u, u2_ne, u1_ne, u1_eq, u2_rowne]; omega)) (by first | rfl | exact Nat.le_refl _ | (simp (disch := omega) only [u2_u, u2_ne, u1_ne, u1_eq, u2_rowne, Nat.le_refl]; done) | (simp (disch := omega) only [u2_u, u2_ne, u1_ne, u1_eq, u2_rowne]; omega)) (by first | rfl | exact Nat.le_refl _ | (simp (disch := omega) only [u2_u, u2_ne, u1_ne, u1_eq, u2_rowne, Nat.le_refl]; done) | (simp (disch := omega) only [u2_u, u2_ne, u1_ne, u1_eq, u2_rowne]; omega)) (by first | rfl | exact Nat.le_refl _ | (simp (disch := omega) only [u2_u, u2_ne, u1_ne, u1_eq, u2_rowne, Nat.le_refl]; done) | (simp (disch := omega) only [u2_u, u2_ne, u1_ne, u1_eq, u2_rowne]; omega)) (fun x h1 h2 => by first | rfl | exact Nat.le_refl _ | (simp (disch := omega) only [u2_u, u2_ne, u1_ne, u1_eq, u2_rowne, Nat.le_refl]; done) | (simp (disch := omega) only [u2_u, u2_ne, u1_ne, u1_eq, u2_rowne]; omega)), sk_clock E A.sc0, lk_clock E A.la0, ck_clock E A.ct0, rk_clock E A.rw0, zk_clock E A.zs0⟩, A.2.fr E (fr_clock E) ⟨by decide, by decide, by decide, by decide⟩ anD_n nS_clock⟩, GR.z A.w (fr_clock E) (by decide)⟩
theorem al_premium (A : AL s h) (a b : Int32) : CO h (p139 h a b) (fun g => p238 g a b) := by
  rcases w_premium A.rw0.2.1 a b with ⟨v, e1, e2⟩ | ⟨n, m, v, h1, hn1, hn2, ha, hb, e1, e2⟩
  · exact CO.n A v e1 e2
  · have E := A.e
    exact ⟨v, h1, _, e1, e2, ⟨s, ⟨ev_premium E, A.di, sk_premium E A.sc0, lk_premium E A.la0, ck_premium E A.ct0, rk_premium E A.rw0, zk_premium E A.zs0⟩, A.2.fr E (fr_premium E) ⟨by decide, by decide, by decide, by decide⟩ anD_n nS_premium⟩, GR.z A.w (fr_premium E) (by decide)⟩
theorem al_cover (A : AL s h) (a : Int32) : CO h (p130 h a) (fun g => p217 g a) := by
  rcases w_cover A.e a with ⟨v, e1, e2⟩ | ⟨n, v, h1, hn1, hn2, ha, e1, e2⟩
  · exact CO.n A v e1 e2
  · have E := A.e
    exact ⟨v, h1, _, e1, e2, ⟨u2 s 0 6 (s 0 6 + 1), ⟨ev_cover E hn2, A.di.k (by first | rfl | exact Nat.le_refl _ | (simp (disch := omega) only [u2_u, u2_ne, u1_ne, u1_eq, u2_rowne, Nat.le_refl]; done) | (simp (disch := omega) only [u2_u, u2_ne, u1_ne, u1_eq, u2_rowne]; omega)) (by first | rfl | exact Nat.le_refl _ | (simp (disch := omega) only [u2_u, u2_ne, u1_ne, u1_eq, u2_rowne, Nat.le_refl]; done) | (simp (disch := omega) only [u2_u, u2_ne, u1_ne, u1_eq, u2_rowne]; omega)) (by first | rfl | exact Nat.le_refl _ | (simp (disch := omega) only [u2_u, u2_ne, u1_ne, u1_eq, u2_rowne, Nat.le_refl]; done) | (simp (disch := omega) only [u2_u, u2_ne, u1_ne, u1_eq, u2_rowne]; omega)) (by first | rfl | exact Nat.le_refl _ | (simp (disch := omega) only [u2_u, u2_ne, u1_ne, u1_eq, u2_rowne, Nat.le_refl]; done) | (simp (disch := omega) only [u2_u, u2_ne, u1_ne, u1_eq, u2_rowne]; omega)) (fun x h1 h2 => by first | rfl | exact Nat.le_refl _ | (simp (disch := omega) only [u2_u, u2_ne, u1_ne, u1_eq, u2_rowne, Nat.le_refl]; done) | (simp (disch := omega) only [u2_u, u2_ne, u1_ne, u1_eq, u2_rowne]; omega)), sk_cover E A.sc0, lk_cover E A.la0, ck_cover E A.ct0, rk_cover E A.rw0, zk_cover E A.zs0⟩, A.2.fr E (fr_cover E) ⟨by decide, by decide, by decide, by decide⟩ anD_n nS_cover⟩, GR.z A.w (fr_cover E) (by decide)⟩
theorem al_unsee (A : AL s h) (a : Int32) : CO h (p129 h a) (fun g => p215 g a) := by
  rcases w_unsee A.e a with ⟨v, e1, e2⟩ | ⟨n, v, h1, hn1, hn2, ha, e1, e2⟩
  · exact CO.n A v e1 e2
  · have E := A.e
    exact ⟨v, h1, _, e1, e2, ⟨u2 s 11 n (s 0 0), ⟨ev_unsee E A.di hn1, A.di.k (by first | rfl | exact Nat.le_refl _ | (simp (disch := omega) only [u2_u, u2_ne, u1_ne, u1_eq, u2_rowne, Nat.le_refl]; done) | (simp (disch := omega) only [u2_u, u2_ne, u1_ne, u1_eq, u2_rowne]; omega)) (by first | rfl | exact Nat.le_refl _ | (simp (disch := omega) only [u2_u, u2_ne, u1_ne, u1_eq, u2_rowne, Nat.le_refl]; done) | (simp (disch := omega) only [u2_u, u2_ne, u1_ne, u1_eq, u2_rowne]; omega)) (by first | rfl | exact Nat.le_refl _ | (simp (disch := omega) only [u2_u, u2_ne, u1_ne, u1_eq, u2_rowne, Nat.le_refl]; done) | (simp (disch := omega) only [u2_u, u2_ne, u1_ne, u1_eq, u2_rowne]; omega)) (by first | rfl | exact Nat.le_refl _ | (simp (disch := omega) only [u2_u, u2_ne, u1_ne, u1_eq, u2_rowne, Nat.le_refl]; done) | (simp (disch := omega) only [u2_u, u2_ne, u1_ne, u1_eq, u2_rowne]; omega)) (fun x h1 h2 => by first | rfl | exact Nat.le_refl _ | (simp (disch := omega) only [u2_u, u2_ne, u1_ne, u1_eq, u2_rowne, Nat.le_refl]; done) | (simp (disch := omega) only [u2_u, u2_ne, u1_ne, u1_eq, u2_rowne]; omega)), sk_unsee E A.sc0 hn1, lk_unsee E A.la0 hn1, ck_unsee E A.ct0 hn1, rk_unsee E A.rw0 hn1, zk_unsee E A.zs0 hn1⟩, A.2.fr E (fr_unsee E hn1) ⟨by decide, by decide, by decide, by decide⟩ (anD_o A (Or.inl (E.sn.t hn1))) nS_unsee⟩, GR.z A.w (fr_unsee E hn1) (by decide)⟩
theorem al_fall (A : AL s h) (a : Int32) : CO h (p132 h a) (fun g => p221 g a) := by
  rcases w_fall A.e a with ⟨v, e1, e2⟩ | ⟨n, v, h1, hn1, hn2, ha, e1, e2⟩
  · exact CO.n A v e1 e2
  · have E := A.e
    exact ⟨v, h1, _, e1, e2, ⟨u2 s 20 n (s 0 0), ⟨ev_fall E A.di hn1, A.di.k (by first | rfl | exact Nat.le_refl _ | (simp (disch := omega) only [u2_u, u2_ne, u1_ne, u1_eq, u2_rowne, Nat.le_refl]; done) | (simp (disch := omega) only [u2_u, u2_ne, u1_ne, u1_eq, u2_rowne]; omega)) (by first | rfl | exact Nat.le_refl _ | (simp (disch := omega) only [u2_u, u2_ne, u1_ne, u1_eq, u2_rowne, Nat.le_refl]; done) | (simp (disch := omega) only [u2_u, u2_ne, u1_ne, u1_eq, u2_rowne]; omega)) (by first | rfl | exact Nat.le_refl _ | (simp (disch := omega) only [u2_u, u2_ne, u1_ne, u1_eq, u2_rowne, Nat.le_refl]; done) | (simp (disch := omega) only [u2_u, u2_ne, u1_ne, u1_eq, u2_rowne]; omega)) (by first | rfl | exact Nat.le_refl _ | (simp (disch := omega) only [u2_u, u2_ne, u1_ne, u1_eq, u2_rowne, Nat.le_refl]; done) | (simp (disch := omega) only [u2_u, u2_ne, u1_ne, u1_eq, u2_rowne]; omega)) (fun x h1 h2 => by first | rfl | exact Nat.le_refl _ | (simp (disch := omega) only [u2_u, u2_ne, u1_ne, u1_eq, u2_rowne, Nat.le_refl]; done) | (simp (disch := omega) only [u2_u, u2_ne, u1_ne, u1_eq, u2_rowne]; omega)), sk_fall E A.sc0 hn1, lk_fall E A.la0 hn1, ck_fall E A.ct0 hn1, rk_fall E A.rw0 hn1, zk_fall E A.zs0 hn1⟩, A.2.fr E (fr_fall E hn1) ⟨by decide, by decide, by decide, by decide⟩ (anD_o A (Or.inl (E.rp.t hn1))) nS_fall⟩, GR.z A.w (fr_fall E hn1) (by decide)⟩
theorem al_open (A : AL s h) (a : Int32) : CO h (p125 h a) (fun g => p209 g a) := by
  rcases w_open A.e a with ⟨v, e1, e2⟩ | ⟨n, v, h1, hn1, hn2, hn3, ha, e1, e2⟩
  · exact CO.n A v e1 e2
  · have E := A.e
    exact ⟨v, h1, _, e1, e2, ⟨u2 s 2 n (s 0 0), ⟨ev_open E A.di hn1, A.di.k (by first | rfl | exact Nat.le_refl _ | (simp (disch := omega) only [u2_u, u2_ne, u1_ne, u1_eq, u2_rowne, Nat.le_refl]; done) | (simp (disch := omega) only [u2_u, u2_ne, u1_ne, u1_eq, u2_rowne]; omega)) (by first | rfl | exact Nat.le_refl _ | (simp (disch := omega) only [u2_u, u2_ne, u1_ne, u1_eq, u2_rowne, Nat.le_refl]; done) | (simp (disch := omega) only [u2_u, u2_ne, u1_ne, u1_eq, u2_rowne]; omega)) (by first | rfl | exact Nat.le_refl _ | (simp (disch := omega) only [u2_u, u2_ne, u1_ne, u1_eq, u2_rowne, Nat.le_refl]; done) | (simp (disch := omega) only [u2_u, u2_ne, u1_ne, u1_eq, u2_rowne]; omega)) (by first | rfl | exact Nat.le_refl _ | (simp (disch := omega) only [u2_u, u2_ne, u1_ne, u1_eq, u2_rowne, Nat.le_refl]; done) | (simp (disch := omega) only [u2_u, u2_ne, u1_ne, u1_eq, u2_rowne]; omega)) (fun x h1 h2 => by first | rfl | exact Nat.le_refl _ | (simp (disch := omega) only [u2_u, u2_ne, u1_ne, u1_eq, u2_rowne, Nat.le_refl]; done) | (simp (disch := omega) only [u2_u, u2_ne, u1_ne, u1_eq, u2_rowne]; omega)), sk_open E A.sc0 hn1, lk_open E A.la0 hn1, ck_open E A.ct0 A.di hn1, rk_open E A.rw0 hn1, zk_open E A.zs0 hn1⟩, A.2.fr E (fr_open E hn1) ⟨by decide, by decide, by decide, by decide⟩ (anD_o A (Or.inr (E.sh.t hn1))) nS_open⟩, GR.z A.w (fr_open E hn1) (by decide)⟩
theorem al_end (A : AL s h) (a : Int32) : CO h (p143 h a) (fun g => p243 g a) := by
  rcases w_end A.e a with ⟨v, e1, e2⟩ | ⟨n, v, h1, hn1, ha, e1, e2⟩
  · exact CO.n A v e1 e2
  · have E := A.e
    exact ⟨v, h1, _, e1, e2, ⟨u2 s 0 12 n, ⟨ev_end E hn1, A.di.k (by first | rfl | exact Nat.le_refl _ | (simp (disch := omega) only [u2_u, u2_ne, u1_ne, u1_eq, u2_rowne, Nat.le_refl]; done) | (simp (disch := omega) only [u2_u, u2_ne, u1_ne, u1_eq, u2_rowne]; omega)) (by first | rfl | exact Nat.le_refl _ | (simp (disch := omega) only [u2_u, u2_ne, u1_ne, u1_eq, u2_rowne, Nat.le_refl]; done) | (simp (disch := omega) only [u2_u, u2_ne, u1_ne, u1_eq, u2_rowne]; omega)) (by first | rfl | exact Nat.le_refl _ | (simp (disch := omega) only [u2_u, u2_ne, u1_ne, u1_eq, u2_rowne, Nat.le_refl]; done) | (simp (disch := omega) only [u2_u, u2_ne, u1_ne, u1_eq, u2_rowne]; omega)) (by first | rfl | exact Nat.le_refl _ | (simp (disch := omega) only [u2_u, u2_ne, u1_ne, u1_eq, u2_rowne, Nat.le_refl]; done) | (simp (disch := omega) only [u2_u, u2_ne, u1_ne, u1_eq, u2_rowne]; omega)) (fun x h1 h2 => by first | rfl | exact Nat.le_refl _ | (simp (disch := omega) only [u2_u, u2_ne, u1_ne, u1_eq, u2_rowne, Nat.le_refl]; done) | (simp (disch := omega) only [u2_u, u2_ne, u1_ne, u1_eq, u2_rowne]; omega)), sk_end E A.sc0, lk_end E A.la0, ck_end E A.ct0, rk_end E A.rw0, zk_end E A.zs0⟩, A.2.fr E (fr_end E) ⟨by decide, by decide, by decide, by decide⟩ anD_n (nS_end hn1)⟩, GR.z A.w (fr_end E) (by decide)⟩
theorem al_sack (A : AL s h) (a : Int32) : CO h (p115 h a) (fun g => p191 g a) := by
  rcases w_sack A.e a with ⟨v, e1, e2⟩ | ⟨n, v, h1, hn1, hn2, hn3, ha, e1, e2⟩
  · exact CO.n A v e1 e2
  · have E := A.e
    exact ⟨v, h1, _, e1, e2, ⟨u2 s 0 1 (s 0 1 + 1), ⟨ev_sack E hn3, A.di.k (by first | rfl | exact Nat.le_refl _ | (simp (disch := omega) only [u2_u, u2_ne, u1_ne, u1_eq, u2_rowne, Nat.le_refl]; done) | (simp (disch := omega) only [u2_u, u2_ne, u1_ne, u1_eq, u2_rowne]; omega)) (by first | rfl | exact Nat.le_refl _ | (simp (disch := omega) only [u2_u, u2_ne, u1_ne, u1_eq, u2_rowne, Nat.le_refl]; done) | (simp (disch := omega) only [u2_u, u2_ne, u1_ne, u1_eq, u2_rowne]; omega)) (by first | rfl | exact Nat.le_refl _ | (simp (disch := omega) only [u2_u, u2_ne, u1_ne, u1_eq, u2_rowne, Nat.le_refl]; done) | (simp (disch := omega) only [u2_u, u2_ne, u1_ne, u1_eq, u2_rowne]; omega)) (by first | rfl | exact Nat.le_refl _ | (simp (disch := omega) only [u2_u, u2_ne, u1_ne, u1_eq, u2_rowne, Nat.le_refl]; done) | (simp (disch := omega) only [u2_u, u2_ne, u1_ne, u1_eq, u2_rowne]; omega)) (fun x h1 h2 => by first | rfl | exact Nat.le_refl _ | (simp (disch := omega) only [u2_u, u2_ne, u1_ne, u1_eq, u2_rowne, Nat.le_refl]; done) | (simp (disch := omega) only [u2_u, u2_ne, u1_ne, u1_eq, u2_rowne]; omega)), sc_sack_sc E A.sc0 hn1 hn2, lk_sack E A.la0, ck_sack E A.ct0, rk_sack E A.rw0, zk_sack E A.zs0⟩, A.2.fr E (fr_sack E) ⟨by decide, by decide, by decide, by decide⟩ anD_n nS_sack⟩, GR.z A.w (fr_sack E) (by decide)⟩
theorem al_seen (A : AL s h) (a b c d : Int32) : CO h (p128 h a b c d) (fun g => p214 g a b c d) := by
  rcases w_seen A.e a b c d with ⟨v, e1, e2⟩ | ⟨q, pl, f, t, v, h5, hq, hpl, hft, ht, z1, z2, z3, z4, e1, e2⟩
  · exact CO.n A v e1 e2
  · have E := A.e
    exact ⟨v, _, _, e1, e2, ⟨st_seen s h q pl f t, ⟨ev_seen E h5 hq hpl hft ht, di_seen E A.di, sk_seen E A.sc0, lk_seen E A.la0, ck_seen E A.ct0, rk_seen E A.rw0, zk_seen E A.zs0⟩, A.2.fr E (fr_seen E) ⟨by decide, by decide, by decide, by decide⟩ anD_n nS_seen⟩, ⟨⟨by show h.1 + 1 ≤ h.1 + 6; omega, by show h.2.1 + 10 ≤ h.2.1 + 700; omega⟩, SK.fr A.w (fr_seen E) (by decide)⟩⟩
theorem al_report (A : AL s h) (a0 a1 a2 a3 a4 a5 a6 : Int32) : CO h (p131 h a0 a1 a2 a3 a4 a5 a6) (fun g => p219 g a0 a1 a2 a3 a4 a5 a6) := by
  rcases w_report A.e a0 a1 a2 a3 a4 a5 a6 with ⟨v, e1, e2⟩ | ⟨w, c, p, act, pl, d, wr, v, h7, hw, hop, hc, hp, hact, hpl, hdw, hwr, z0, z1, z2, z3, z4, z5, z6, e1, e2⟩
  · exact CO.n A v e1 e2
  · have E := A.e
    exact ⟨v, _, _, e1, e2, ⟨st_report s h w c p act pl d wr, ⟨ev_report E A.di h7 hw hop hc hp hact hpl hdw hwr, di_report E A.di, sk_report E A.sc0 hw, lk_report E A.la0 hw, ct_report E A.di A.ct0 hw, rk_report E A.rw0 hw, zk_report E A.zs0 hw⟩, A.2.fr E (fr_report E hw) ⟨by decide, by decide, by decide, by decide⟩ (anD_o A (Or.inr (E.sh.t hw))) nS_report⟩, ⟨⟨by show h.1 + 1 ≤ h.1 + 6; omega, by show h.2.1 + 10 ≤ h.2.1 + 700; omega⟩, SK.fr A.w (fr_report E hw) (by decide)⟩⟩
theorem al_bill (A : AL s h) (a0 a1 a2 a3 : Int32) : CO h (p140 h a0 a1 a2 a3) (fun g => p239 g a0 a1 a2 a3) := by
  rcases w_bill A.e a0 a1 a2 a3 with ⟨v, e1, e2⟩ | ⟨w, c, co, d, v, h8, hw, hop, hc, hco, hd, z0, z1, z2, z3, e1, e2⟩
  · exact CO.n A v e1 e2
  · have E := A.e
    exact ⟨v, _, _, e1, e2, ⟨st_bill s h w c co, ⟨ev_bill E A.di h8 hw hc hco, di_bill E A.di, sk_bill E A.sc0 hw, lk_bill E A.la0 hw, ct_bill E A.di A.ct0 hw, rk_bill E A.rw0 hw, zk_bill E A.zs0 hw⟩, A.2.fr E (fr_bill E hw) ⟨by decide, by decide, by decide, by decide⟩ (anD_o A (Or.inr (E.sh.t hw))) nS_bill⟩, ⟨⟨by show h.1 + 1 ≤ h.1 + 6; omega, by show h.2.1 + 10 ≤ h.2.1 + 700; omega⟩, SK.fr A.w (fr_bill E hw) (by decide)⟩⟩
theorem al_scrap (A : AL s h) (hF : 50000 ≤ F) (a b : Int32) (x : Int64) : CO h (p116 h a b x) (fun g => p192 F g a b x) := by
  rcases w_scrap (F := F) A.e (by omega) a b x with ⟨v, e1, e2⟩ | ⟨i, j, v, hs, hi, hj, ha, hb, e1, e2⟩
  · exact CO.n A v e1 e2
  · have E := A.e
    subst ha
    subst hb
    exact ⟨v, _, _, e1, e2, ⟨u2 s 0 2 (s 0 2 + 1), ⟨ev_scrap E hs, A.di.k (by first | rfl | exact Nat.le_refl _ | (simp (disch := omega) only [u2_u, u2_ne, u1_ne, u1_eq, u2_rowne, Nat.le_refl]; done) | (simp (disch := omega) only [u2_u, u2_ne, u1_ne, u1_eq, u2_rowne]; omega)) (by first | rfl | exact Nat.le_refl _ | (simp (disch := omega) only [u2_u, u2_ne, u1_ne, u1_eq, u2_rowne, Nat.le_refl]; done) | (simp (disch := omega) only [u2_u, u2_ne, u1_ne, u1_eq, u2_rowne]; omega)) (by first | rfl | exact Nat.le_refl _ | (simp (disch := omega) only [u2_u, u2_ne, u1_ne, u1_eq, u2_rowne, Nat.le_refl]; done) | (simp (disch := omega) only [u2_u, u2_ne, u1_ne, u1_eq, u2_rowne]; omega)) (by first | rfl | exact Nat.le_refl _ | (simp (disch := omega) only [u2_u, u2_ne, u1_ne, u1_eq, u2_rowne, Nat.le_refl]; done) | (simp (disch := omega) only [u2_u, u2_ne, u1_ne, u1_eq, u2_rowne]; omega)) (fun x h1 h2 => by first | rfl | exact Nat.le_refl _ | (simp (disch := omega) only [u2_u, u2_ne, u1_ne, u1_eq, u2_rowne, Nat.le_refl]; done) | (simp (disch := omega) only [u2_u, u2_ne, u1_ne, u1_eq, u2_rowne]; omega)), sc_scrap_sc E A.sc0 hs hi, lk_scrap E A.la0, ck_scrap E A.ct0, rk_scrap E A.rw0, zk_scrap E A.zs0⟩, A.2.fr E (fr_scrap (i := i) (j := j) (x := x) E) ⟨by decide, by decide, by decide, by decide⟩ anD_n nS_scrap⟩, GR.z A.w (fr_scrap (i := i) (j := j) (x := x) E) (by decide)⟩
/-- tear's frame -/
def terD (s : SS) (i x : Nat) : Prop := x = s 30 i ∨ (∃ k, k < s 0 7 ∧ x = s 32 k) ∨ ∃ k, k < s 0 8 ∧ x = s 33 k
theorem trC_fr {W : List Nat} {K : List (Nat × Nat)} {D : Nat → Prop} {h0 : HS} (p : Nat → Bool) (ob : Nat → Nat) (now : Int32) : ∀ (m : Nat) (h : HS), (∀ k, k < m → D (ob k)) → FR W K D h0 h → FR W K D h0 (trC p ob now m h) := by
  intro m
  induction m with
  | zero => intro h _ f; exact f
  | succ m ih =>
    intro h hD f
    rw [trC]
    split
    · exact (ih h (fun k hk => hD k (by omega)) f).sI (Or.inr (Or.inl (hD m (by omega))))
    · exact ih h (fun k hk => hD k (by omega)) f
theorem fr_tear (E : EV s h) {i : Nat} (hi : i < s 0 3) : FR [37, 91, 97, 119, 124] [] (terD s i) h (terM s i (terC s i h)) := by
  have f0 : FR [37, 91, 97, 119, 124] [] (terD s i) h h := FR.rf (fun x z => by
    rcases z with z | ⟨k, hk, z⟩ | ⟨k, hk, z⟩
    · have := E.sh.lo hi; omega
    · have := E.rp.lo hk; omega
    · have := E.bl.lo hk; omega)
  have f1 : FR [37, 91, 97, 119, 124] [] (terD s i) h (terG s i h) := by
    unfold terG papF
    exact trC_fr _ _ _ _ _ (fun k hk => Or.inr (Or.inr ⟨k, hk, rfl⟩)) (trC_fr _ _ _ _ _ (fun k hk => Or.inr (Or.inl ⟨k, hk, rfl⟩)) (f0.sI (Or.inr (Or.inl (Or.inl rfl)))))
  have f2 : FR [37, 91, 97, 119, 124] [] (terD s i) h (terC s i h) := by
    unfold terC
    exact f1.aI (Or.inl (by decide))
  unfold terM
  exact (((f2.sI (Or.inl (by decide))).aI (Or.inl (by decide))).aI (Or.inl (by decide))).aI (Or.inl (by decide))
theorem al_tear (A : AL s h) (hF : 50000 ≤ F) (a : Int32) : CO h (p124 F h a) (fun g => p208 F g a) := by
  rcases w_tear (F := F) A.e A.di A.sc0 (by omega) a with ⟨v, e1, e2⟩ | ⟨i, v, hi, h3, ha, e1, e2⟩
  · exact CO.n A v e1 e2
  · have E := A.e
    have f := fr_tear E hi
    have dd : anD s (terD s i) := anD_T A (fun x z => by
      rcases z with z | ⟨k, hk, z⟩ | ⟨k, hk, z⟩
      · rw [z]; exact Or.inr (E.sh.t hi)
      · rw [z]; exact Or.inl (E.rp.t hk)
      · rw [z]; exact Or.inl (E.bl.t hk))
    exact ⟨v, _, _, e1, e2, ⟨st_tear s i, ⟨ev_tear E A.di hi, di_tear A.di, sk_tear E A.sc0 hi, lk_tear E A.la0 hi, ck_tear E A.di A.ct0 hi, rk_tear E A.rw0 hi, zk_tear E A.zs0 hi⟩, A.2.fr E f ⟨by decide, by decide, by decide, by decide⟩ dd nS_tear⟩, GR.z A.w f (by decide)⟩
end AL3
