/-! scraps: edges, fits -/
/-- an edge as the class reads it -/
def eg (x : Int64) (k : Nat) : Int32 := (((x.toUInt64 >>> (((48 : Int32) - (16) * (nI k)).toInt64.toUInt64 &&& Int64.toUInt64 63)).toInt64).toInt32).toInt16.toInt32
theorem eg_s1 : ∀ k, k < 4 → ((((48 : Int32) - (16) * (nI k)).toInt64.toUInt64 &&& Int64.toUInt64 63).toBitVec % 64#64).toNat = 48 - 16 * k := by decide +kernel
theorem eg_s2 : ∀ k, k < 4 → ((((48 : Int32) - (16) * (nI k)).toInt64 &&& 63).toBitVec.smod 64#64).toNat = 48 - 16 * k := by decide +kernel
theorem eg_bit (x : Int64) {k i : Nat} (hk : k < 4) (hi : i < 32) : (eg x k).toBitVec.getLsbD i = x.toBitVec.getLsbD (48 - 16 * k + (if i < 16 then i else 15)) := by
  unfold eg
  rw [Int16.toBitVec_toInt32, Int32.toBitVec_toInt16, Int64.toBitVec_toInt32]
  show (BitVec.signExtend 32 (BitVec.signExtend 16 (BitVec.signExtend 32 (x.toUInt64 >>> (((48 : Int32) - (16) * (nI k)).toInt64.toUInt64 &&& Int64.toUInt64 63)).toBitVec))).getLsbD i = _
  rw [UInt64.toBitVec_shiftRight]
  rw [BitVec.ushiftRight_eq', show ((((48 : Int32) - (16) * (nI k)).toInt64.toUInt64 &&& Int64.toUInt64 63).toBitVec % 64).toNat = 48 - 16 * k from eg_s1 k hk]
  rw [BitVec.getLsbD_signExtend, BitVec.msb_eq_getLsbD_last, BitVec.getLsbD_signExtend, BitVec.getLsbD_signExtend]
  rw [BitVec.getLsbD_signExtend, BitVec.getLsbD_signExtend]
  by_cases h16 : i < 16
  · have a1 : i < 64 := by omega
    simp only [h16, hi, a1, if_true, decide_true, Bool.true_and, BitVec.getLsbD_ushiftRight]
    rfl
  · simp only [h16, hi, if_false, decide_true, Bool.true_and, BitVec.getLsbD_ushiftRight]
    rfl
theorem eg_low (x : Int64) {k i : Nat} (hk : k < 4) (hi : i < 32) : ((((x >>> (((48 : Int32) - ((16) * (nI k))).toInt64 &&& 63)) &&& (65535)).toInt32).toBitVec).getLsbD i = (decide (i < 16) && x.toBitVec.getLsbD (48 - 16 * k + i)) := by
  rw [Int64.toBitVec_toInt32, Int64.toBitVec_and, Int64.toBitVec_shiftRight]
  rw [BitVec.getLsbD_signExtend, BitVec.getLsbD_and, BitVec.sshiftRight_eq', show ((((48 : Int32) - (16) * (nI k)).toInt64 &&& 63).toBitVec.smod 64).toNat = 48 - 16 * k from eg_s2 k hk, BitVec.getLsbD_sshiftRight]
  have hm : ∀ i, i < 64 → (65535 : Int64).toBitVec.getLsbD i = decide (i < 16) := by decide +kernel
  rw [hm i (by omega)]
  by_cases h16 : i < 16
  · have e1 : 48 - 16 * k + i < 64 := by omega
    have e2 : ¬ 64 ≤ i := by omega
    simp [h16, hi, e1, e2]
  · have e2 : ¬ 64 ≤ i := by omega
    simp [h16, e2]
theorem eg_ok (x : Int64) {k : Nat} (hk : k < 4) : (if (32767 : Int32) < (((x >>> (((48 : Int32) - ((16) * (nI k))).toInt64 &&& 63)) &&& (65535)).toInt32) then (((x >>> (((48 : Int32) - ((16) * (nI k))).toInt64 &&& 63)) &&& (65535)).toInt32) - 65536 else (((x >>> (((48 : Int32) - ((16) * (nI k))).toInt64 &&& 63)) &&& (65535)).toInt32)) = eg x k := by
  have hb := fun i (hi : i < 32) => eg_low x (i := i) hk hi
  generalize (((x >>> (((48 : Int32) - ((16) * (nI k))).toInt64 &&& 63)) &&& (65535)).toInt32) = V at hb ⊢
  have hbig : ∀ i, 16 ≤ i → V.toBitVec.getLsbD i = false := fun i hi => by
    rcases Nat.lt_or_ge i 32 with z | z
    · rw [hb i z, decide_eq_false (by omega)]; rfl
    · exact BitVec.getLsbD_of_ge _ _ z
  have hm : V.toBitVec.toNat < 2 ^ 16 := Nat.lt_pow_two_of_testBit _ (fun i hi => hbig i hi)
  have hV : V = nI V.toBitVec.toNat := Int32.toBitVec_inj.1 (by show V.toBitVec = BitVec.ofNat 32 _; simp)
  have h15 : (32767 : Int32) < V ↔ V.toBitVec.getLsbD 15 = true := by
    have e : V.toBitVec.getLsbD 15 = decide (V.toBitVec.toNat / 2 ^ 15 % 2 = 1) := Nat.testBit_eq_decide_div_mod_eq
    rw [e, decide_eq_true_iff]
    conv => lhs; rw [hV]
    rw [show (32767 : Int32) = nI 32767 from rfl, nI_ltI (by decide) (by omega)]
    omega
  apply Int32.toBitVec_inj.1
  apply BitVec.eq_of_getLsbD_eq
  intro i hi
  rw [eg_bit x hk hi]
  by_cases h1 : (32767 : Int32) < V
  · rw [if_pos h1]
    have b15 := h15.mp h1
    have e1 : (V - 65536).toBitVec = V.toBitVec ||| 4294901760#32 := by
      rw [Int32.toBitVec_sub]
      have e2 : V.toBitVec - (65536 : Int32).toBitVec = V.toBitVec + 4294901760#32 := by
        rw [BitVec.sub_eq_add_neg]
        rfl
      rw [e2]
      apply BitVec.add_eq_or_of_and_eq_zero
      apply BitVec.eq_of_getLsbD_eq
      intro j hj
      rw [BitVec.getLsbD_and, BitVec.getLsbD_zero]
      have hc : ∀ j, j < 32 → (4294901760#32).getLsbD j = decide (16 ≤ j) := by decide +kernel
      rw [hc j hj]
      by_cases hj16 : 16 ≤ j
      · rw [hbig j hj16]; rfl
      · rw [decide_eq_false hj16, Bool.and_false]
    have hc : ∀ j, j < 32 → (4294901760#32).getLsbD j = decide (16 ≤ j) := by decide +kernel
    rw [e1, BitVec.getLsbD_or, hc i hi]
    by_cases h16 : i < 16
    · rw [if_pos h16, hb i hi, decide_eq_true h16, decide_eq_false (by omega), Bool.or_false, Bool.true_and]
    · rw [if_neg h16, decide_eq_true (by omega), Bool.or_true]
      rw [hb 15 (by decide)] at b15
      exact b15.symm
  · rw [if_neg h1]
    by_cases h16 : i < 16
    · rw [if_pos h16, hb i hi, decide_eq_true h16, Bool.true_and]
    · rw [if_neg h16, hbig i (by omega)]
      have b15 : V.toBitVec.getLsbD 15 = false := by
        cases hh : V.toBitVec.getLsbD 15 with
        | false => rfl
        | true => exact absurd (h15.mpr hh) h1
      rw [hb 15 (by decide)] at b15
      exact b15.symm
