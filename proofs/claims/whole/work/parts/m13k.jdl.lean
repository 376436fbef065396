/-! the JDK's own methods: texts, their contracts -/
section JE
variable {l : Launch} {g : GX} {xt : XT} {h : HS}
theorem mvj : ∀ z : String, z = SJ ∨ z = "java/lang/StringLatin1" ∨ z = "jdk/internal/util/Preconditions" ∨ z = "java/util/Arrays" → z ≠ "java/lang/invoke/MethodHandle" ∧ z ≠ "java/lang/invoke/VarHandle" := by
  rintro z (rfl | rfl | rfl | rfl) <;> decide
set_option maxRecDepth 100000 in
theorem J_coder {i : Nat} (hi : i < 22) : JM l g xt (fun _ => True) yJc prog_18_method_152_code 1 (some .byte) 1 20 [.ref (gE g (2 + i))] h (some (.int 0)) h := by
  refine JM.of (by decide) ?_
  intro p e R s m args below meth c J _ hlk hret hRm H hr
  obtain ⟨hx, hb, hml, hown, hts, hK⟩ := id J
  obtain ⟨adV, hS⟩ := hK.2.2.2.2.2.2.1
  obtain ⟨o1, o2, o3, o4⟩ := hS.1 i hi
  refine jgets J hr hK.2.2.2.2.2.2.2.2.1 jw_c.2.2.2.2.1 rfl ?_
  refine lv_if_eq hx hb (off := 10) (tgt := 13) rfl rfl (fun z => absurd z (by decide)) (fun _ => ?_)
  refine lv_aload_n (k := 0) (i := 0) (x := gE g (2 + i)) hx hb rfl rfl rfl ?_
  refine jgetf J hr o2 jw_c.2.2.2.2.2.1 rfl ?_
  refine lv_goto hx hb (off := 4) (tgt := 14) rfl rfl ?_
  have e0 : h.1 - h.1 = 0 := Nat.sub_self _
  have e1 : h.2.1 - h.2.1 = 0 := Nat.sub_self _
  rw [e0, e1]
  exact W.zret (ty := .byte) hx hb hret rfl (fun t ht hW => ⟨rfl, by rw [ht]; exact hr⟩) (fun q hq => by cases hq) rfl hlk
set_option maxRecDepth 100000 in
theorem J_latin {i : Nat} (hi : i < 22) : JM l g xt (fun _ => True) yJi prog_18_method_154_code 1 (some .boolean) 1 20 [.ref (gE g (2 + i))] h (some (.int 1)) h := by
  refine JM.of (by decide) ?_
  intro p e R s m args below meth c J _ hlk hret hRm H hr
  obtain ⟨hx, hb, hml, hown, hts, hK⟩ := id J
  obtain ⟨adV, hS⟩ := hK.2.2.2.2.2.2.1
  obtain ⟨o1, o2, o3, o4⟩ := hS.1 i hi
  refine jgets J hr hK.2.2.2.2.2.2.2.2.1 jw_c.2.2.2.2.1 rfl ?_
  refine lv_if_eq hx hb (off := 14) (tgt := 17) rfl rfl (fun z => absurd z (by decide)) (fun _ => ?_)
  refine lv_aload_n (k := 0) (i := 0) (x := gE g (2 + i)) hx hb rfl rfl rfl ?_
  refine jgetf J hr o2 jw_c.2.2.2.2.2.1 rfl ?_
  refine lv_if_ne hx hb (off := 7) (tgt := 17) rfl rfl (fun z => absurd rfl z) (fun _ => ?_)
  refine lv_iconst hx hb (n := 1) (v := 1) rfl rfl ?_
  refine lv_goto hx hb (off := 4) (tgt := 18) rfl rfl ?_
  have e0 : h.1 - h.1 = 0 := Nat.sub_self _
  have e1 : h.2.1 - h.2.1 = 0 := Nat.sub_self _
  rw [e0, e1]
  exact W.zret (ty := .boolean) hx hb hret rfl (fun t ht hW => ⟨rfl, by rw [ht]; exact hr⟩) (fun q hq => by cases hq) rfl hlk
/-- an object's cell, of a text -/
theorem jrecv {s : State} {H : Heap} (hK : KS g xt s) (hr : Rel g xt h H) {i : Nat} (hi : i < 22) : ∃ cellB : Cell, H[gE g (2 + i)]? = some cellB ∧ cellB.vm.isStatics = false ∧ s.vm.findClass SJ = some cellB.cls := by
  obtain ⟨adV, hS⟩ := hK.2.2.2.2.2.2.1
  obtain ⟨⟨cell, w1, w2, w3, w4⟩, -⟩ := hS.1 i hi
  exact ⟨cell, by rw [hr.2.2.2.2.1 _ (Nat.lt_of_not_le w4)]; exact w1, w2, w3⟩
set_option maxRecDepth 100000 in
theorem J_len {i : Nat} (hi : i < 22) : JM l g xt (fun _ => True) yJl prog_18_method_54_code 1 (some .int) 2 60 [.ref (gE g (2 + i))] h (some (.int (Int32.ofNat (lenS.getD i 0)))) h := by
  refine JM.of (by decide) ?_
  intro p e R s m args below meth c J _ hlk hret hRm H hr
  obtain ⟨hx, hb, hml, hown, hts, hK⟩ := id J
  obtain ⟨adV, hS⟩ := hK.2.2.2.2.2.2.1
  obtain ⟨o1, o2, o3, o4⟩ := hS.1 i hi
  refine lv_aload_n (k := 0) (i := 0) (x := gE g (2 + i)) hx hb rfl rfl rfl ?_
  refine jgetf J hr o3 jw_c.2.2.2.2.2.2 rfl ?_
  refine jalen J hr o4 rfl ?_
  refine lv_aload_n (k := 0) (i := 0) (x := gE g (2 + i)) hx hb rfl rfl rfl ?_
  have e0 : h.1 - h.1 = 0 := Nat.sub_self _
  have e1 : h.2.1 - h.2.1 = 0 := Nat.sub_self _
  refine jcV (n := 0) (as := []) (C := SJ) J JB.t trivial (J_coder hi) jw_c.1 jw_c.2.1 jw_c.2.2.1 jw_c.2.2.2.1 jw_S.1 (mvj _ (Or.inl rfl)) (by decide +kernel) (by rw [hRm.1, hRm.2.1]; decide) (by rw [hRm.2.2.1, hRm.2.2.2]; omega) hr (fun q hq => by cases hq) (jrecv hK hr hi) rfl rfl (by simp [Value.category]) rfl (fun H1 locs1 hr1 hlo1 => ?_)
  refine lv_ishr hx hb rfl ?_
  have ev : Int32.ofNat (lenS.getD i 0) >>> ((0 : Int32) &&& 31) = Int32.ofNat (lenS.getD i 0) := by
    have z : ((0 : Int32) &&& 31) = 0 := by decide
    rw [z]
    exact (by decide +kernel : ∀ i, i < 22 → Int32.ofNat (lenS.getD i 0) >>> (0 : Int32) = Int32.ofNat (lenS.getD i 0)) i hi
  rw [ev, e0, e1]
  exact W.iret hx hb hret (fun t ht hW => ⟨rfl, by rw [ht]; exact hr1⟩) hlo1 rfl hlk
theorem jw_p : Cond.fieldLink SJ 1053 "jdk/internal/util/Preconditions" "SIOOBE_FORMATTER" "Ljava/util/function/BiFunction;" ∈ tw ∧ Cond.methodLink SJ 1059 yJp ∈ tw ∧ Cond.static yJp ∈ tw ∧ Cond.code yJp prog_23_method_11_code 3 (some .int) ∈ tw := ⟨tw_of (i := 1030) (by decide +kernel) rfl, tw_of (i := 1032) (by decide +kernel) rfl, tw_of (i := 1033) (by decide +kernel) rfl, tw_of (i := 1034) (by decide +kernel) rfl⟩
set_option maxRecDepth 100000 in
theorem J_pre {a b : Int32} {x : Value} (hx0 : x = .null ∨ ∃ t, x = .ref t) (ha : ¬ a < 0) (hab : a < b) : JM l g xt (fun _ => True) yJp prog_23_method_11_code 3 (some .int) 1 20 [.int a, .int b, x] h (some (.int a)) h := by
  refine JM.of (by decide) ?_
  intro p e R s m args below meth c J _ hlk hret hRm H hr
  obtain ⟨hx, hb, hml, hown, hts, hK⟩ := id J
  have e0 : h.1 - h.1 = 0 := Nat.sub_self _
  have e1 : h.2.1 - h.2.1 = 0 := Nat.sub_self _
  rw [e0, e1]
  have l0 : ((lg_sl [.int a, .int b, x] ++ List.replicate (3 - (lg_sl [.int a, .int b, x]).length) Slot.unset).toArray)[0]? = some (.val (.int a)) := by
    rcases hx0 with rfl | ⟨t, rfl⟩ <;> rfl
  have l1 : ((lg_sl [.int a, .int b, x] ++ List.replicate (3 - (lg_sl [.int a, .int b, x]).length) Slot.unset).toArray)[1]? = some (.val (.int b)) := by
    rcases hx0 with rfl | ⟨t, rfl⟩ <;> rfl
  generalize ((lg_sl [.int a, .int b, x] ++ List.replicate (3 - (lg_sl [.int a, .int b, x]).length) Slot.unset).toArray) = ls at *
  refine lv_iload_n (k := 0) (i := 0) (x := a) hx hb rfl rfl l0 ?_
  refine lv_if_lt hx hb (off := 8) (tgt := 9) rfl rfl (fun z => absurd z ha) (fun _ => ?_)
  refine lv_iload_n (k := 0) (i := 0) (x := a) hx hb rfl rfl l0 ?_
  refine lv_iload_n (k := 1) (i := 1) (x := b) hx hb rfl rfl l1 ?_
  refine lv_icmp_lt hx hb (off := 10) (tgt := 16) rfl rfl (fun _ => ?_) (fun z => absurd hab z)
  refine lv_iload_n (k := 0) (i := 0) (x := a) hx hb rfl rfl l0 ?_
  exact W.iret hx hb hret (fun t ht hW => ⟨rfl, by rw [ht]; exact hr⟩) (fun q hq => by cases hq) rfl hlk
set_option maxRecDepth 100000 in
theorem J_chk {a b : Int32} (ha : ¬ a < 0) (hab : a < b) : JM l g xt (fun _ => True) yJk prog_18_method_155_code 2 none 2 60 [.int a, .int b] h none h := by
  refine JM.of (by decide) ?_
  intro p e R s m args below meth c J _ hlk hret hRm H hr
  obtain ⟨hx, hb, hml, hown, hts, hK⟩ := id J
  have e0 : h.1 - h.1 = 0 := Nat.sub_self _
  have e1 : h.2.1 - h.2.1 = 0 := Nat.sub_self _
  refine lv_iload_n (k := 0) (i := 0) (x := a) hx hb rfl rfl rfl ?_
  refine lv_iload_n (k := 1) (i := 1) (x := b) hx hb rfl rfl rfl ?_
  have go : ∀ x : Value, (x = .null ∨ ∃ t, x = .ref t) → va_Z "jdk/internal/util/Preconditions" "SIOOBE_FORMATTER" "Ljava/util/function/BiFunction;" x (fun q => gb g ≤ q) s (gH g) → W p l e R s m args below meth c H [] 0 0 (MQ below (fun _ _ o t => o = .returned none ∧ Rel g xt h t.heap) args s (h.1 - h.1) (h.2.1 - h.2.1) (fun q => gb g ≤ q)) (F0 m 2 ((lg_sl [.int a, .int b] ++ List.replicate (2 - (lg_sl [.int a, .int b]).length) Slot.unset).toArray) [.int b, .int a]) := by
    intro x hx0 hZ
    refine jgets J hr hZ jw_p.1 rfl ?_
    refine jcS (n := 3) (rs := [.int a, .int b, x]) (rest := []) J JB.t trivial (J_pre hx0 ha hab) jw_p.2.1 jw_p.2.2.1 jw_p.2.2.2 jw_S.2.2 (mvj _ (Or.inr (Or.inr (Or.inl rfl)))) (by decide +kernel) (by rw [hRm.1, hRm.2.1]; decide) (by rw [hRm.2.2.1, hRm.2.2.2]; omega) hr (fun q hq => by cases hq) rfl rfl (by decide) rfl (fun H1 locs1 hr1 hlo1 => ?_)
    refine lv_pop hx hb (va := .int a) rfl rfl ?_
    rw [e0, e1]
    exact W.vret hx hb hret (fun t ht hW => ⟨rfl, by rw [ht]; exact hr1⟩) hlo1 rfl hlk
  rcases hK.2.2.2.2.2.2.2.2.2.1 with z | ⟨t, z⟩
  · exact go _ (Or.inl rfl) z
  · exact go _ (Or.inr ⟨t, rfl⟩) z
theorem byt_c : ∀ i, i < 22 → lenS.getD i 0 < 2147483648 ∧ ∀ j, j < lenS.getD i 0 → ((((bytS.getD i []).getD j 0) &&& 255).toUInt32 % 65536).toInt32 = (bytS.getD i []).getD j 0 ∧ ((bytS.getD i []).getD j 0).toUInt32.toUInt16.toUInt32.toInt32 = (bytS.getD i []).getD j 0 := by decide +kernel
/-- the bytes of a text, of which state ever -/
def JV (g : GX) (i t : Nat) (U : State) : Prop := va_T .byte t (lenS.getD i 0) (fun j => .int ((bytS.getD i []).getD j 0)) (fun q => gb g ≤ q) U (gH g)
theorem JV.b {i t : Nat} : JB (JV g i t) := ⟨fun s U hW h => va_T.moved hW.alike h, fun s f mk a h => va_T.moved (U := s.calling f mk a) (Vm.Alike.refl s.vm) h⟩
set_option maxRecDepth 100000 in
theorem J_L1 {i t : Nat} (hi : i < 22) {j : Int32} (hin : ¬ (j < 0 ∨ lenS.getD i 0 ≤ j.toNatClampNeg)) : JM l g xt (JV g i t) yJL prog_19_method_2_code 2 (some .char) 3 100 [.ref t, .int j] h (some (.int ((bytS.getD i []).getD j.toNatClampNeg 0))) h := by
  refine JM.of (by decide) ?_
  intro p e R s m args below meth c J hV hlk hret hRm H hr
  obtain ⟨hx, hb, hml, hown, hts, hK⟩ := id J
  have e0 : h.1 - h.1 = 0 := Nat.sub_self _
  have e1 : h.2.1 - h.2.1 = 0 := Nat.sub_self _
  obtain ⟨b1, b2'⟩ := byt_c i hi
  have hj0 : ¬ j < 0 := fun z => hin (Or.inl z)
  have hjn : j.toNatClampNeg < lenS.getD i 0 := Nat.not_le.mp fun z => hin (Or.inr z)
  obtain ⟨b3, b4⟩ := b2' _ hjn
  have hlt : j < Int32.ofNat (lenS.getD i 0) := by
    have hz0 : (0 : Int) ≤ j.toInt := by
      have := Int32.not_lt.mp hj0
      simpa using Int32.le_iff_toInt_le.mp this
    rw [Int32.lt_iff_toInt_lt, Int32.toInt_ofNat_of_lt (by omega)]
    have : j.toNatClampNeg = j.toInt.toNat := rfl
    omega
  refine lv_iload_n (k := 1) (i := 1) (x := j) hx hb rfl rfl rfl ?_
  refine lv_aload_n (k := 0) (i := 0) (x := t) hx hb rfl rfl rfl ?_
  refine jalen J hr hV rfl ?_
  refine jcS (n := 2) (rs := [.int j, .int (Int32.ofNat (lenS.getD i 0))]) (rest := []) J JB.t trivial (J_chk hj0 hlt) jw_L.2.2.2.1 jw_L.2.2.2.2.1 jw_L.2.2.2.2.2 jw_S.1 (mvj _ (Or.inl rfl)) (by decide +kernel) (by rw [hRm.1, hRm.2.1]; decide) (by rw [hRm.2.2.1, hRm.2.2.2]; omega) hr (fun q hq => by cases hq) rfl rfl (by decide) rfl (fun H1 locs1 hr1 hlo1 => ?_)
  refine lv_aload_n (k := 0) (i := 0) (x := t) hx hb rfl rfl rfl ?_
  refine lv_iload_n (k := 1) (i := 1) (x := j) hx hb rfl rfl rfl ?_
  refine jbald J hr1 hV hin rfl rfl ?_
  refine lv_sipush hx hb (n := 255) (v := 255) rfl (by decide) ?_
  refine lv_iand hx hb rfl ?_
  refine lv_i2c hx hb (v := (bytS.getD i []).getD j.toNatClampNeg 0) rfl b3 ?_
  rw [e0, e1]
  exact W.zret (ty := .char) hx hb hret (congrArg Value.int b4) (fun t ht hW => ⟨rfl, by rw [ht]; exact hr1⟩) hlo1 rfl hlk
set_option maxRecDepth 100000 in
theorem J_chr {i : Nat} (hi : i < 22) {j : Int32} (hin : ¬ (j < 0 ∨ lenS.getD i 0 ≤ j.toNatClampNeg)) : JM l g xt (fun _ => True) yJa prog_18_method_56_code 2 (some .char) 4 140 [.ref (gE g (2 + i)), .int j] h (some (.int ((bytS.getD i []).getD j.toNatClampNeg 0))) h := by
  refine JM.of (by decide) ?_
  intro p e R s m args below meth c J _ hlk hret hRm H hr
  obtain ⟨hx, hb, hml, hown, hts, hK⟩ := id J
  have e0 : h.1 - h.1 = 0 := Nat.sub_self _
  have e1 : h.2.1 - h.2.1 = 0 := Nat.sub_self _
  obtain ⟨adV, hS⟩ := hK.2.2.2.2.2.2.1
  obtain ⟨o1, o2, o3, o4⟩ := hS.1 i hi
  have hjn : j.toNatClampNeg < lenS.getD i 0 := Nat.not_le.mp fun z => hin (Or.inr z)
  obtain ⟨b3, b4⟩ := (byt_c i hi).2 _ hjn
  refine lv_aload_n (k := 0) (i := 0) (x := gE g (2 + i)) hx hb rfl rfl rfl ?_
  refine jcV (n := 0) (as := []) (rest := []) (C := SJ) J JB.t trivial (J_latin hi) jw_i.1 jw_i.2.1 jw_i.2.2.1 jw_i.2.2.2 jw_S.1 (mvj _ (Or.inl rfl)) (by decide +kernel) (by rw [hRm.1, hRm.2.1]; decide) (by rw [hRm.2.2.1, hRm.2.2.2]; omega) hr (fun q hq => by cases hq) (jrecv hK hr hi) rfl rfl (by decide) rfl (fun H1 locs1 hr1 hlo1 => ?_)
  refine lv_if_eq hx hb (off := 12) (tgt := 16) rfl rfl (fun z => absurd z (by decide)) (fun _ => ?_)
  refine lv_aload_n (k := 0) (i := 0) (x := gE g (2 + i)) hx hb rfl rfl rfl ?_
  refine jgetf J hr1 o3 jw_c.2.2.2.2.2.2 rfl ?_
  refine lv_iload_n (k := 1) (i := 1) (x := j) hx hb rfl rfl rfl ?_
  refine jcS (n := 2) (rs := [.ref (adV i), .int j]) (rest := []) J JV.b o4 (J_L1 (t := adV i) hi hin) jw_L.1 jw_L.2.1 jw_L.2.2.1 jw_S.2.1 (mvj _ (Or.inr (Or.inl rfl))) (by decide +kernel) (by rw [hRm.1, hRm.2.1]; decide) (by rw [hRm.2.2.1, hRm.2.2.2]; omega) hr1 hlo1 rfl rfl (by decide) rfl (fun H2 locs2 hr2 hlo2 => ?_)
  rw [e0, e1]
  exact W.zret (ty := .char) hx hb hret (congrArg Value.int b4) (fun t ht hW => ⟨rfl, by rw [ht]; exact hr2⟩) hlo2 rfl hlk
end JE
