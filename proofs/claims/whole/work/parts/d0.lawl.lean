/-! the law's loop, through -/
/-- what the class leaves: the script -/
def KPA (F : Nat) : Prop := (∀ h, WF h → ∀ (a : Int32) r, p114 h a = some r → SK h r.2) ∧ (∀ h, WF h → ∀ (a : Int32) r, p115 h a = some r → SK h r.2) ∧ (∀ h, WF h → ∀ (a : Int32) (b : Int32) (c : Int64) r, p116 h a b c = some r → SK h r.2) ∧ (∀ h, WF h → ∀ (a : Int32) (b : Int32) (c : Int32) r, p119 F h a b c = some r → SK h r.2) ∧ (∀ h, WF h → ∀ (a : Int32) (b : Int32) (c : Int64) r, p121 F h a b c = some r → SK h r.2) ∧ (∀ h, WF h → ∀ (a : Int32) r, p122 F h a = some r → SK h r.2) ∧ (∀ h, WF h → ∀  r, p123 h  = some r → SK h r.2) ∧ (∀ h, WF h → ∀ (a : Int32) r, p124 F h a = some r → SK h r.2) ∧ (∀ h, WF h → ∀ (a : Int32) r, p125 h a = some r → SK h r.2) ∧ (∀ h, WF h → ∀ (a : Int32) r, p127 h a = some r → SK h r.2) ∧ (∀ h, WF h → ∀ (a : Int32) (b : Int32) (c : Int32) (d : Int32) r, p128 h a b c d = some r → SK h r.2) ∧ (∀ h, WF h → ∀ (a : Int32) r, p129 h a = some r → SK h r.2) ∧ (∀ h, WF h → ∀ (a : Int32) r, p130 h a = some r → SK h r.2) ∧ (∀ h, WF h → ∀ (a : Int32) (b : Int32) (c : Int32) (d : Int32) (e : Int32) (f : Int32) (g : Int32) r, p131 h a b c d e f g = some r → SK h r.2) ∧ (∀ h, WF h → ∀ (a : Int32) r, p132 h a = some r → SK h r.2) ∧ (∀ h, WF h → ∀ (a : Int32) r, p137 F h a = some r → SK h r.2) ∧ (∀ h, WF h → ∀ (a : Int32) (b : Int32) r, p139 h a b = some r → SK h r.2) ∧ (∀ h, WF h → ∀ (a : Int32) (b : Int32) (c : Int32) (d : Int32) r, p140 h a b c d = some r → SK h r.2) ∧ (∀ h, WF h → ∀ (a : Int32) (b : Int32) (c : Int32) (d : Int32) (e : Int32) r, p142 F h a b c d e = some r → SK h r.2) ∧ (∀ h, WF h → ∀ (a : Int32) r, p143 h a = some r → SK h r.2) ∧ (∀ h, WF h → ∀ (a : Int32) r, p144 F h a = some r → SK h r.2) ∧ (∀ h, WF h → ∀ (a : Int32) (b : Int64) (c : Int32) (d : Int32) r, p146 h a b c d = some r → SK h r.2) ∧ (∀ h, WF h → ∀ (a b : Int32) r, p147 h a b = some r → SK h r.2) ∧ (∀ h, WF h → ∀ (a : Int32) (b : Int32) (c : Int32) r, p148 F h a b c = some r → SK h r.2) ∧ (∀ h, WF h → ∀ (a : Int32) (b : Int32) r, p150 h a b = some r → SK h r.2) ∧ (∀ h, WF h → ∀ (a : Int32) r, p151 F h a = some r → SK h r.2) ∧ (∀ h, WF h → ∀  r, p152 F h  = some r → SK h r.2) ∧ (∀ h, WF h → ∀ (a : Int32) (b : Int32) r, p155 h a b = some r → SK h r.2) ∧ (∀ h, WF h → ∀ (a : Int32) (b : Int32) r, p156 F h a b = some r → SK h r.2) ∧ (∀ h, WF h → ∀ (a : Int32) (b : Int32) r, p157 F h a b = some r → SK h r.2) ∧ (∀ h, WF h → ∀ (a b : Int32) r, p158 h a b = some r → SK h r.2) ∧ (∀ h, WF h → ∀ (a : Int32) r, p159 F h a = some r → SK h r.2) ∧ (∀ h, WF h → ∀  r, p160 F h  = some r → SK h r.2) ∧ (∀ h, WF h → ∀ (a : Int32) (b : Int32) r, p162 h a b = some r → SK h r.2) ∧ (∀ h, WF h → ∀ (a : Int32) (b : Int64) r, p163 F h a b = some r → SK h r.2)
section LP
variable {h : HS} {F i Ls : Nat} {K : HS → Int32 → Option (Int32 × HS)}
theorem lcA (hK : KPA F) (X : AX h) (hL : hN h 1 = Ls) (hi : i + 8 ≤ Ls) (h4 : i + 8 ≤ 4096) (hF : 50000 ≤ F) (x : Int32) : NX h i K (lbr F K h (nI i) x) := by
  obtain ⟨s, A⟩ := X
  obtain ⟨k0, k1, k2, k5, k7, k8, k9, k10, k11, k13, k14, k15, k16, k17, k18, k23, k25, k26, k28, k29, k30, k32, k33, k34, k36, k37, k38, k41, k42, k43, k44, k45, k46, k48, k49⟩ := hK
  unfold lbr
  by_cases z0 : x = 0
  · rw [if_pos z0]; exact lc0 A hL hi h4 hF k0
  rw [if_neg z0]
  by_cases z1 : x = 1
  · rw [if_pos z1]; exact lc1 A hL hi h4 hF k1
  rw [if_neg z1]
  by_cases z2 : x = 2
  · rw [if_pos z2]; exact lc2 A hL hi h4 hF k2
  rw [if_neg z2]
  by_cases z3 : x = 3
  · rw [if_pos z3]; exact lc3 A hL hi h4 hF
  rw [if_neg z3]
  by_cases z4 : x = 4
  · rw [if_pos z4]; exact lc4 A hL hi h4 hF
  rw [if_neg z4]
  by_cases z5 : x = 5
  · rw [if_pos z5]; exact lc5 A hL hi h4 hF k5
  rw [if_neg z5]
  by_cases z6 : x = 6
  · rw [if_pos z6]; exact lc6 A hL hi h4 hF
  rw [if_neg z6]
  by_cases z7 : x = 7
  · rw [if_pos z7]; exact lc7 A hL hi h4 hF k7
  rw [if_neg z7]
  by_cases z8 : x = 8
  · rw [if_pos z8]; exact lc8 A hL hi h4 hF k8
  rw [if_neg z8]
  by_cases z9 : x = 9
  · rw [if_pos z9]; exact lc9 A hL hi h4 hF k9
  rw [if_neg z9]
  by_cases z10 : x = 10
  · rw [if_pos z10]; exact lc10 A hL hi h4 hF k10
  rw [if_neg z10]
  by_cases z11 : x = 11
  · rw [if_pos z11]; exact lc11 A hL hi h4 hF k11
  rw [if_neg z11]
  by_cases z12 : x = 12
  · rw [if_pos z12]; exact lc12 A hL hi h4 hF
  rw [if_neg z12]
  by_cases z13 : x = 13
  · rw [if_pos z13]; exact lc13 A hL hi h4 hF k13
  rw [if_neg z13]
  by_cases z14 : x = 14
  · rw [if_pos z14]; exact lc14 A hL hi h4 hF k14
  rw [if_neg z14]
  by_cases z15 : x = 15
  · rw [if_pos z15]; exact lc15 A hL hi h4 hF k15
  rw [if_neg z15]
  by_cases z16 : x = 16
  · rw [if_pos z16]; exact lc16 A hL hi h4 hF k16
  rw [if_neg z16]
  by_cases z17 : x = 17
  · rw [if_pos z17]; exact lc17 A hL hi h4 hF k17
  rw [if_neg z17]
  by_cases z18 : x = 18
  · rw [if_pos z18]; exact lc18 A hL hi h4 hF k18
  rw [if_neg z18]
  by_cases z19 : x = 19
  · rw [if_pos z19]; exact lc19 A hL hi h4 hF
  rw [if_neg z19]
  by_cases z20 : x = 20
  · rw [if_pos z20]; exact lc20 A hL hi h4 hF
  rw [if_neg z20]
  by_cases z21 : x = 21
  · rw [if_pos z21]; exact lc21 A hL hi h4 hF
  rw [if_neg z21]
  by_cases z22 : x = 22
  · rw [if_pos z22]; exact lc22 A hL hi h4 hF
  rw [if_neg z22]
  by_cases z23 : x = 23
  · rw [if_pos z23]; exact lc23 A hL hi h4 hF k23
  rw [if_neg z23]
  by_cases z24 : x = 24
  · rw [if_pos z24]; exact lc24 A hL hi h4 hF
  rw [if_neg z24]
  by_cases z25 : x = 25
  · rw [if_pos z25]; exact lc25 A hL hi h4 hF k25
  rw [if_neg z25]
  by_cases z26 : x = 26
  · rw [if_pos z26]; exact lc26 A hL hi h4 hF k26
  rw [if_neg z26]
  by_cases z27 : x = 27
  · rw [if_pos z27]; exact lc27 A hL hi h4 hF
  rw [if_neg z27]
  by_cases z28 : x = 28
  · rw [if_pos z28]; exact lc28 A hL hi h4 hF k28
  rw [if_neg z28]
  by_cases z29 : x = 29
  · rw [if_pos z29]; exact lc29 A hL hi h4 hF k29
  rw [if_neg z29]
  by_cases z30 : x = 30
  · rw [if_pos z30]; exact lc30 A hL hi h4 hF k30
  rw [if_neg z30]
  by_cases z31 : x = 31
  · rw [if_pos z31]; exact lc31 A hL hi h4 hF
  rw [if_neg z31]
  by_cases z32 : x = 32
  · rw [if_pos z32]; exact lc32 A hL hi h4 hF k32
  rw [if_neg z32]
  by_cases z33 : x = 33
  · rw [if_pos z33]; exact lc33 A hL hi h4 hF k33
  rw [if_neg z33]
  by_cases z34 : x = 34
  · rw [if_pos z34]; exact lc34 A hL hi h4 hF k34
  rw [if_neg z34]
  by_cases z35 : x = 35
  · rw [if_pos z35]; exact lc35 A hL hi h4 hF
  rw [if_neg z35]
  by_cases z36 : x = 36
  · rw [if_pos z36]; exact lc36 A hL hi h4 hF k36
  rw [if_neg z36]
  by_cases z37 : x = 37
  · rw [if_pos z37]; exact lc37 A hL hi h4 hF k37
  rw [if_neg z37]
  by_cases z38 : x = 38
  · rw [if_pos z38]; exact lc38 A hL hi h4 hF k38
  rw [if_neg z38]
  by_cases z39 : x = 39
  · rw [if_pos z39]; exact lc39 A hL hi h4 hF
  rw [if_neg z39]
  by_cases z40 : x = 40
  · rw [if_pos z40]; exact lc40 A hL hi h4 hF
  rw [if_neg z40]
  by_cases z41 : x = 41
  · rw [if_pos z41]; exact lc41 A hL hi h4 hF k41
  rw [if_neg z41]
  by_cases z42 : x = 42
  · rw [if_pos z42]; exact lc42 A hL hi h4 hF k42
  rw [if_neg z42]
  by_cases z43 : x = 43
  · rw [if_pos z43]; exact lc43 A hL hi h4 hF k43
  rw [if_neg z43]
  by_cases z44 : x = 44
  · rw [if_pos z44]; exact lc44 A hL hi h4 hF k44
  rw [if_neg z44]
  by_cases z45 : x = 45
  · rw [if_pos z45]; exact lc45 A hL hi h4 hF k45
  rw [if_neg z45]
  by_cases z46 : x = 46
  · rw [if_pos z46]; exact lc46 A hL hi h4 hF k46
  rw [if_neg z46]
  by_cases z47 : x = 47
  · rw [if_pos z47]; exact lc47 A hL hi h4 hF
  rw [if_neg z47]
  by_cases z48 : x = 48
  · rw [if_pos z48]; exact lc48 A hL hi h4 hF k48
  rw [if_neg z48]
  by_cases z49 : x = 49
  · rw [if_pos z49]; exact lc49 A hL hi h4 hF k49
  rw [if_neg z49]
  by_cases z50 : x = 50
  · rw [if_pos z50]; exact lc50 A hL hi h4 hF
  rw [if_neg z50]
  by_cases z51 : x = 51
  · rw [if_pos z51]; exact lc51 A hL hi h4 hF
  rw [if_neg z51]
  exact ⟨h, ⟨s, A⟩, GR.rf h, by rw [p306_j2120, ix8]⟩
theorem GRn {a b : HS} (g : GR a b) {m : Nat} {c : HS} (g2 : c.1 ≤ b.1 + 6 * m ∧ c.2.1 ≤ b.2.1 + 700 * m) : c.1 ≤ a.1 + 6 * (m + 1) ∧ c.2.1 ≤ a.2.1 + 700 * (m + 1) := by
  obtain ⟨⟨g1, g3⟩, -⟩ := g
  omega
/-- the whole loop -/
theorem lpA (hK : KPA F) (hF : 50000 ≤ F) (hLs : Ls ≤ 4096) : ∀ (m n i : Nat) (h : HS), AX h → hN h 1 = Ls → i ≤ Ls → Ls - i < 8 * m → m ≤ n → ∃ g, p306_L18 F n h (nI i) = some (1, g) ∧ g.1 ≤ h.1 + 6 * m ∧ g.2.1 ≤ h.2.1 + 700 * m := by
  have small : ∀ L : Nat, L < 8 → ∀ i, i ≤ L → nI L - 8 < nI i := by decide
  intro m
  induction m with
  | zero => intro n i h _ _ _ z; omega
  | succ m ih =>
    intro n i h X hL hi hm hn
    obtain ⟨n, rfl⟩ : ∃ n', n = n' + 1 := ⟨n - 1, by omega⟩
    rw [p306_s, hL]
    show ∃ g, (if nI Ls - 8 < nI i then _ else _) = some (1, g) ∧ _
    by_cases z : i + 8 ≤ Ls
    · have e8 : nI Ls - 8 = nI (Ls - 8) := by rw [show (8 : Int32) = nI 8 from rfl]; exact pk_sub (by omega)
      rw [e8, if_neg (nI_nlt (by omega) (by omega)), nI_clamp (by omega), if_neg (nI_in' (by omega) (by omega))]
      obtain ⟨g, X2, G, e⟩ := lcA (K := p306_L18 F n) hK X hL z (by omega) hF (hI h 1 i &&& 63)
      rw [e]
      obtain ⟨g2, e2, r⟩ := ih n (i + 8) g X2 (G.2.1.trans hL) z (by omega) (by omega)
      exact ⟨g2, e2, GRn G r⟩
    · have lt : nI Ls - 8 < nI i := by
        by_cases y : Ls < 8
        · exact small Ls y i hi
        · have e8 : nI Ls - 8 = nI (Ls - 8) := by rw [show (8 : Int32) = nI 8 from rfl]; exact pk_sub (by omega)
          rw [e8]
          exact nI_lt (by omega) (by omega)
      rw [if_pos lt]
      exact ⟨h, rfl, by omega, by omega⟩
end LP
