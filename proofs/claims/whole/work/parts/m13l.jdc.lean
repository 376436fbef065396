/-! the JDK's own methods: Arrays.copyOf of ints -/
section JF
variable {p : Program} {l : Launch} {e : Env} {R : Room} {s : State} {m : MethodId} {args : Array Value} {below : List Frame} {meth : Method} {c : Code} {Q : State → Prop}
variable {g : GX} {xt : XT} {h : HS} {H : Heap} {locs : List Loc} {cells slots pc ml : Nat} {ls : Array Slot} {rest : List Value} {own : String} {yb : ByteArray}
def yJC : MethodName := ⟨"java/util/Arrays", "copyOf", "([II)[I"⟩
def yJn : MethodName := ⟨"[I", "clone", "()Ljava/lang/Object;"⟩
def yJo : MethodName := ⟨"java/lang/Object", "clone", "()Ljava/lang/Object;"⟩
abbrev AJ : String := "java/util/Arrays"
theorem jw_C : Cond.static yJC ∈ tw ∧ Cond.code yJC prog_22_method_123_code 3 (some (.array .int)) ∈ tw ∧ Cond.initialized AJ ∈ tw := ⟨tw_of (i := 1119) (by decide +kernel) rfl, tw_of (i := 1120) (by decide +kernel) rfl, tw_of (i := 121) (by decide +kernel) rfl⟩
theorem jw_n : Cond.methodLink AJ 316 yJn ∈ tw ∧ Cond.sameMethod "[I" "java/lang/Object" "clone" "()Ljava/lang/Object;" ∈ tw ∧ Cond.native yJo ∈ tw ∧ Cond.instanceMethod yJo ∈ tw ∧ Cond.selects "[I" yJn yJo ∈ tw ∧ Cond.classLink AJ 317 "[I" ∈ tw := ⟨tw_of (i := 1121) (by decide +kernel) rfl, tw_of (i := 1122) (by decide +kernel) rfl, tw_of (i := 1123) (by decide +kernel) rfl, tw_of (i := 1124) (by decide +kernel) rfl, tw_of (i := 1125) (by decide +kernel) rfl, tw_of (i := 1127) (by decide +kernel) rfl⟩
theorem jw_y : Cond.methodLink AJ 304 Lib.Math.min.name ∈ tw ∧ Cond.methodLink AJ 150 arraycopyName ∈ tw ∧ Cond.static arraycopyName ∈ tw ∧ Cond.native arraycopyName ∈ tw ∧ Cond.initialized "java/lang/System" ∈ tw := ⟨tw_of (i := 1128) (by decide +kernel) rfl, tw_of (i := 1129) (by decide +kernel) rfl, tw_of (i := 1130) (by decide +kernel) rfl, tw_of (i := 1131) (by decide +kernel) rfl, tw_of (i := 127) (by decide +kernel) rfl⟩
theorem jcast (hK : KS g xt s) : va_Nw (.castable "[I" "java/lang/Cloneable") s := hK.2.1 _ (List.mem_filter.mpr ⟨List.mem_of_getElem? (i := 1126) (by decide +kernel), rfl⟩)
theorem jclone {a n : Nat} {f : Nat → Int32} {cA : ClassId} (J : JC p s m args c AJ yb ml g xt) (hls : ls.size = ml) (hcell : H[a]? = some (vp_cell cA (n, .inl f))) (hA : ArrOfT s cA .int) (hnm : s.vm.findClass "[I" = some cA)
    (hframes : 1 ≤ R.frames) (hlocals : (rest.map fun v => v.category).sum + 14 ≤ R.locals) (hcells : cells + 1 ≤ R.cells) (hslots : slots + n ≤ R.slots) (hdg : decode yb pc = .ok (.invokevirtual 316, 3))
    (kk : W p l e R s m args below meth c (H.push (vp_cell cA (n, .inl f))) locs (cells + 1) (slots + n) Q (F0 m (pc + 3) ls (.ref H.size :: rest))) : W p l e R s m args below meth c H locs cells slots Q (F0 m pc ls (.ref a :: rest)) := by
  obtain ⟨hx, hb, hml, hown, hts, hK⟩ := J
  obtain ⟨c0, t0', f1, f2, f3⟩ := Cond.castable_spec (va_Nw.use (A := args) rfl (jcast hK))
  cases hnm.symm.trans f1
  have hsz : (vp_cell cA (n, .inl f)).slots.size = n := arrV_size _ _ _
  have hcellE : ({ cls := (vp_cell cA (n, .inl f)).cls, slots := (vp_cell cA (n, .inl f)).slots } : Cell) = vp_cell cA (n, .inl f) := rfl
  intro T hT X
  have hcellT : T.heap[a]? = some (vp_cell cA (n, .inl f)) := by rw [hT]; exact hcell
  obtain ⟨-, kA, hkA, comp, hkind⟩ := State.isArrayOf_alike X.warmed.alike (hA 0 (fun _ => .null))
  obtain ⟨-, kS, hkS, compS, hkindS⟩ := hA 0 (fun _ => .null)
  obtain ⟨vm', X', st⟩ := X.cloneArray hx hown (hts _ jw_n.1) (hts _ jw_n.2.1) (hts _ jw_n.2.2.1) (hts _ jw_n.2.2.2.1) (hts _ jw_n.2.2.2.2.1) (a := a) (cell := vp_cell cA (n, .inl f)) hcellT (fun k h => by cases h) (fun h => by cases h) hnm f2 f3
    (fun i v hv => by
      have hk' : T.vm.classes[cA]? = some kA := hkA
      have hf : fits .int v = true := by
        have hi : i < n := by
          have := (Array.getElem?_eq_some_iff.mp hv).1
          rw [hsz] at this
          exact this
        have e := arrV_read cA (fun j => Value.int (f j)) hi
        have hv : (arrV cA n (fun j => Value.int (f j))).slots[i]? = some v := hv
        rw [e] at hv
        cases hv
        rfl
      rw [show (vp_cell cA (n, .inl f)).cls = cA from rfl]
      simpa [State.fitsSlot, State.slotType?, hk', hkind] using hf)
    (g := F0 m pc ls (.ref a :: rest)) rfl (by rw [hml]; exact hls) rfl (by rw [hb]; exact hdg) hframes (by show 2 * 0 + _ + 14 ≤ _; omega) hcells (by rw [hsz]; exact hslots) (hloader := Vm.clonesLoader_of_array hkS hkindS)
  rw [hcellE, hsz] at X'
  obtain ⟨t, b1, b2⟩ := kk ((T.setVm vm').pushCell (vp_cell cA (n, .inl f))) (by rw [← hT]; rfl) X'
  refine ⟨t, st t ?_, b2⟩
  rw [hcellE, hT]
  exact b1
theorem jcopy {a0 a n0 n1 : Nat} {f f1 : Nat → Int32} {cA : ClassId} {n : Int32} (J : JC p s m args c AJ yb ml g xt) (hls : ls.size = ml) (hc0 : H[a0]? = some (vp_cell cA (n0, .inl f))) (hc1 : H[a]? = some (vp_cell cA (n1, .inl f1))) (hA : ArrOfT s cA .int)
    (h3 : ¬ n < 0) (h4 : n.toNatClampNeg ≤ n0) (h5 : n.toNatClampNeg ≤ n1) (hfree : ∀ q ∈ locs, gb g ≤ q.base) (hfa : gb g ≤ a)
    (hframes : 1 ≤ R.frames) (hlocals : (rest.map fun v => v.category).sum + (nativeFrameWords "java/lang/System" "arraycopy" 5 + 11) ≤ R.locals) (hdg : decode yb pc = .ok (.invokestatic 150, 3))
    (kk : ∀ locs1 : List Loc, (∀ q ∈ locs1, gb g ≤ q.base) → W p l e R s m args below meth c (H.setIfInBounds a (vp_cell cA (n1, .inl (va_cpy f f1 0 0 n.toNatClampNeg)))) locs1 cells slots Q (F0 m (pc + 3) ls rest)) : W p l e R s m args below meth c H locs cells slots Q (F0 m pc ls (.int n :: .int 0 :: .ref a :: .int 0 :: .ref a0 :: rest)) := by
  obtain ⟨hx, hb, hml, hown, hts, hK⟩ := J
  have nn : ∀ z : Int32, ¬ z < 0 → z.toInt = (z.toNatClampNeg : Int) := by
    intro z hz
    have hz0 : (0 : Int) ≤ z.toInt := by
      have := Int32.not_lt.mp hz
      simpa using Int32.le_iff_toInt_le.mp this
    show z.toInt = ((z.toInt.toNat : Nat) : Int)
    omega
  intro T hT X
  obtain ⟨-, k0, hk0, cm0, hkk0⟩ := hA n0 (fun j => .int (f j))
  obtain ⟨-, k1, hk1, cm1, hkk1⟩ := hA n1 (fun j => .int (f1 j))
  obtain ⟨vm', X', step⟩ := X.arraycopy hx hown (hts _ jw_y.2.1) (hts _ jw_y.2.2.2.1) (hts _ jw_y.2.2.1) (hts _ jw_y.2.2.2.2) (src := a0) (dst := a) (cs := vp_cell cA (n0, .inl f)) (cd := vp_cell cA (n1, .inl f1)) (srcPos := 0) (destPos := 0) (n := n) (by rw [hT]; exact hc0) (by rw [hT]; exact hc1)
    (fun _ h => by cases h) (fun _ h => by cases h) (fun h => by cases h) (fun h => by cases h) hk0 hk1 hkk0 hkk1 (by simp [refKind]) (by decide) (by decide) h3
    (by rw [nn 0 (by decide), nn n h3]; show ¬ _ > ((arrV cA n0 (fun j => .int (f j))).slots.size : Int); rw [arrV_size, show (0 : Int32).toNatClampNeg = 0 from rfl]; omega)
    (by rw [nn 0 (by decide), nn n h3]; show ¬ _ > ((arrV cA n1 (fun j => .int (f1 j))).slots.size : Int); rw [arrV_size, show (0 : Int32).toNatClampNeg = 0 from rfl]; omega)
    (fun vm₁ _ i hi => by
      have e : (vp_cell cA (n0, .inl f)).slots.getD ((0 : Int32).toNatClampNeg + i) .null = .int (f ((0 : Int32).toNatClampNeg + i)) := by
        show (arrV cA n0 (fun j => .int (f j))).slots.getD _ _ = _
        rw [Array.getD_eq_getD_getElem?, arrV_read _ _ (by rw [show (0 : Int32).toNatClampNeg = 0 from rfl]; omega)]
        rfl
      refine ⟨?_, ?_⟩
      · rw [e]; rfl
      · rw [e]; exact trivial)
    (g := F0 m pc ls (.int n :: .int 0 :: .ref a :: .int 0 :: .ref a0 :: rest)) rfl (by rw [hml]; exact hls) (rest := rest) rfl (by rw [hb]; exact hdg) hframes (by show 2 * 0 + _ + _ ≤ _; omega)
  have e1 : copied (vp_cell cA (n0, .inl f)) (vp_cell cA (n1, .inl f1)) 0 0 n = vp_cell cA (n1, .inl (va_cpy f f1 0 0 n.toNatClampNeg)) := va_copied (fun z => .int z) cA cA f f1 (show (0 : Int32).toNatClampNeg + n.toNatClampNeg ≤ n0 by rw [show (0 : Int32).toNatClampNeg = 0 from rfl]; omega)
  rw [e1] at X' step
  have hheap : ((T.setVm vm').setCell a (vp_cell cA (n1, .inl (va_cpy f f1 0 0 n.toNatClampNeg)))).heap = H.setIfInBounds a (vp_cell cA (n1, .inl (va_cpy f f1 0 0 n.toNatClampNeg))) := by rw [← hT]; rfl
  obtain ⟨t, a1, b1⟩ := kk _ (fun q hq => by
    rcases List.mem_append.mp hq with z | z
    · exact hfree q z
    · obtain ⟨z1, -, hz⟩ := List.mem_map.mp z
      rw [← hz]
      exact hfa) _ hheap X'
  exact ⟨t, step t a1, b1⟩
end JF
