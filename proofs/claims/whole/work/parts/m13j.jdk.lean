/-! the JDK's own methods: texts -/
section JD
variable {p : Program} {l : Launch} {e : Env} {R : Room} {s : State} {m : MethodId} {args : Array Value} {below : List Frame} {meth : Method} {c : Code} {Q : State → Prop}
variable {g : GX} {xt : XT} {h : HS} {H : Heap} {locs : List Loc} {cells slots pc ml : Nat} {ls : Array Slot} {rest : List Value} {own : String} {yb : ByteArray}
/-- what more is known of the state goes on -/
def JB (B : State → Prop) : Prop := (∀ (s U : State), s.WarmedH U.vm → B s → B U) ∧ ∀ (s : State) (f : JFrame) (mk : MethodId) (a : Array Value), B s → B (s.calling f mk a)
theorem JB.t : JB (fun _ => True) := ⟨fun _ _ _ _ => trivial, fun _ _ _ _ _ => trivial⟩
def jrm (fr lc : Nat) (h h' : HS) : Room := { frames := fr, cells := h'.1 - h.1, slots := h'.2.1 - h.2.1, locals := lc }
/-- a JDK method's contract -/
def JM (l : Launch) (g : GX) (xt : XT) (B : State → Prop) (y : MethodName) (yb : ByteArray) (ml : Nat) (ret : Option FieldType) (fr lc : Nat) (rs : List Value) (h : HS) (v : Option Value) (h' : HS) : Prop :=
  Met l y (Cond.code y yb ml ret :: tw) (jrm fr lc h h') (va_Pc rs (fun U => (Rel g xt h U.heap ∧ KS g xt U) ∧ B U)) (fun _ _ o t => o = .returned v ∧ Rel g xt h' t.heap) (h'.1 - h.1) (h'.2.1 - h.2.1) (fun q => gb g ≤ q)
/-- a frame -/
def JC (p : Program) (s : State) (m : MethodId) (args : Array Value) (c : Code) (own : String) (yb : ByteArray) (ml : Nat) (g : GX) (xt : XT) : Prop := p.tables.exec = Jvm.exec ∧ c.code = yb ∧ c.maxLocals = ml ∧ s.vm.findClass own = some m.cls ∧ (∀ w ∈ tw, w.before args s = true) ∧ KS g xt s
theorem JM.of {B : State → Prop} {y : MethodName} {ret : Option FieldType} {fr lc : Nat} {rs : List Value} {v : Option Value} {h' : HS} (hp : plainName y.cls = true)
    (body : ∀ (p : Program) (e : Env) (R : Room) (s : State) (m : MethodId) (args : Array Value) (below : List Frame) (meth : Method) (c : Code), JC p s m args c y.cls yb ml g xt → B s → meth.locks = false → meth.sig.returnType = ret → (R.frames = fr ∧ R.locals = lc ∧ R.cells = h'.1 - h.1 ∧ R.slots = h'.2.1 - h.2.1) → ∀ H : Heap, Rel g xt h H →
      W p l e R s m args below meth c H [] 0 0 (MQ below (fun _ _ o t => o = .returned v ∧ Rel g xt h' t.heap) args s (h'.1 - h.1) (h'.2.1 - h.2.1) (fun q => gb g ≤ q)) (F0 m 0 ((lg_sl rs ++ List.replicate (ml - (lg_sl rs).length) Slot.unset).toArray) [])) : JM l g xt B y yb ml ret fr lc rs h v h' := by
  refine Met.ofW (cc := yb) (maxL := ml) (ret := ret) hp rfl ?_
  intro p e s m args below meth c s₁ BL hml hv
  obtain ⟨rfl, ⟨hR, hK⟩, hB⟩ := hv
  have hts0 := atoms_spec (ws := Cond.code y yb ml ret :: tw) BL.pre
  have hts : ∀ w ∈ tw, w.before rs.toArray s = true := fun w hw => hts0 w (List.mem_cons_of_mem _ hw)
  rw [lg_entry_eq]
  exact body p e _ s m _ below meth c ⟨BL.exec, BL.bytes, hml, findClass_of_methodNamed BL.named, hts, hK⟩ hB BL.notSynchronized BL.returns ⟨rfl, rfl, rfl, rfl⟩ s.heap hR
theorem jblind {B : State → Prop} (hB : JB B) {rs : List Value} : FrameBlind (va_Pc rs (fun U => (Rel g xt h U.heap ∧ KS g xt U) ∧ B U)) := by
  intro a U f mk q
  exact ⟨q.1, ⟨q.2.1.1, q.2.1.2.call⟩, hB.2 _ _ _ _ q.2.2⟩
theorem jx_call {av : Array Value} {mc ms : Nat} {st0 : List Value} {v : Option Value} {h' : HS}
    (hr : va_Run p l e R s m args below meth c H locs cells slots mc ms (F0 m pc ls st0) rest ((fun _ _ o t => o = Outcome.returned v ∧ Rel g xt h' t.heap : Array Value → State → Outcome → State → Prop) av) (fun q => gb g ≤ q)) (hlo : ∀ q ∈ locs, gb g ≤ q.base)
    (kk : ∀ (H1 : Heap) (locs1 : List Loc), Rel g xt h' H1 → (∀ q ∈ locs1, gb g ≤ q.base) → W p l e R s m args below meth c H1 locs1 (cells + mc) (slots + ms) Q (F0 m (pc + 3) ls (v.toList ++ rest))) : W p l e R s m args below meth c H locs cells slots Q (F0 m pc ls st0) := by
  intro T hT X
  obtain ⟨v1, st₀, t, T', L, h0, X', hL, e1, e2, hq, st⟩ := hr T hT X
  obtain ⟨hv, hR⟩ := hq
  cases hv
  rw [← e1] at hR
  obtain ⟨t2, a1, b1⟩ := kk T'.heap (locs ++ L) hR (fun q hq => by
    rcases List.mem_append.mp hq with z | z
    · exact hlo q z
    · exact hL q z) T' rfl X'
  exact ⟨t2, st t2 a1, b1⟩
theorem jgood {y : MethodName} {cb : ByteArray} {cm : Nat} {ret : Option FieldType} (hc : Cond.code y cb cm ret ∈ tw) : GoodIn tw (Cond.code y cb cm ret :: tw) := by
  intro w hw
  have hm : w ∈ tw := by
    rcases List.mem_cons.mp hw with z | z
    · rw [z]; exact hc
    · exact z
  exact ⟨hm, good_of_word (List.mem_filter.mp hm).2⟩
/-- a static call -/
theorem jcS {B : State → Prop} {y : MethodName} {cb : ByteArray} {cm fr lc n i : Nat} {ret : Option FieldType} {rs : List Value} {v : Option Value} {h' : HS} (J : JC p s m args c own yb ml g xt) (hB : JB B) (hBs : B s) (hM : JM l g xt B y cb cm ret fr lc rs h v h')
    (hlk : Cond.methodLink own i y ∈ tw) (hst : Cond.static y ∈ tw) (hcode : Cond.code y cb cm ret ∈ tw) (hini : Cond.initialized y.cls ∈ tw) (hd : y.cls ≠ "java/lang/invoke/MethodHandle" ∧ y.cls ≠ "java/lang/invoke/VarHandle") (hn : (parseMethodDescriptor y.desc).map (fun d => d.parameters.length) = some n)
    (hR : fr + 1 ≤ R.frames ∧ 8 + (cm + 11) + lc ≤ R.locals) (hroom : cells + (h'.1 - h.1) ≤ R.cells ∧ slots + (h'.2.1 - h.2.1) ≤ R.slots) (hr : Rel g xt h H) (hlo : ∀ q ∈ locs, gb g ≤ q.base) (hlen : rs.length = n) (hls : ls.size = ml) (hW : (rest.map fun v => v.category).sum ≤ 8) (hdg : decode yb pc = .ok (.invokestatic i, 3))
    (kk : ∀ (H1 : Heap) (locs1 : List Loc), Rel g xt h' H1 → (∀ q ∈ locs1, gb g ≤ q.base) → W p l e R s m args below meth c H1 locs1 (cells + (h'.1 - h.1)) (slots + (h'.2.1 - h.2.1)) Q (F0 m (pc + 3) ls (v.toList ++ rest))) : W p l e R s m args below meth c H locs cells slots Q (F0 m pc ls (rs.reverse ++ rest)) := by
  obtain ⟨hx, hb, hml, hown, hts, hK⟩ := J
  have cw : CallB R s args own i y cb cm ret (Cond.code y cb cm ret :: tw) (jrm fr lc h h') (h'.1 - h.1) (h'.2.1 - h.2.1) n :=
    ⟨rfl, rfl, hR.1, hR.2, pay_in hts (jgood hcode), List.mem_cons_self, hts _ hcode, hts _ hini, hd, fun sig hsig => by rw [hsig] at hn; exact (Option.some.inj hn).symm, hts _ hlk⟩
  exact jx_call (av := rs.toArray) (va_runS ⟨hx, hb, hml, hown, hts⟩ hM ⟨cw, hts _ hst⟩ ⟨jblind hB, fun U hU hW => ⟨rfl, ⟨by rw [hU]; exact hr, hK.warm hW⟩, hB.1 _ _ hW hBs⟩⟩ rfl hlen hls rfl (lv_room hW) hdg hroom) hlo kk
/-- an object's call -/
theorem jcV {B : State → Prop} {C : String} {y : MethodName} {cb : ByteArray} {cm fr lc n i b : Nat} {ret : Option FieldType} {as : List Value} {v : Option Value} {h' : HS} (J : JC p s m args c own yb ml g xt) (hB : JB B) (hBs : B s) (hM : JM l g xt B y cb cm ret fr lc (.ref b :: as) h v h')
    (hlk : Cond.methodLink own i y ∈ tw) (hin : Cond.instanceMethod y ∈ tw) (hse : Cond.selects C y y ∈ tw) (hcode : Cond.code y cb cm ret ∈ tw) (hini : Cond.initialized y.cls ∈ tw) (hd : y.cls ≠ "java/lang/invoke/MethodHandle" ∧ y.cls ≠ "java/lang/invoke/VarHandle") (hn : (parseMethodDescriptor y.desc).map (fun d => d.parameters.length) = some n)
    (hR : fr + 1 ≤ R.frames ∧ 8 + (cm + 11) + lc ≤ R.locals) (hroom : cells + (h'.1 - h.1) ≤ R.cells ∧ slots + (h'.2.1 - h.2.1) ≤ R.slots) (hr : Rel g xt h H) (hlo : ∀ q ∈ locs, gb g ≤ q.base) (hrecv : ∃ cellB : Cell, H[b]? = some cellB ∧ cellB.vm.isStatics = false ∧ s.vm.findClass C = some cellB.cls) (hlen : as.length = n) (hls : ls.size = ml) (hW : (rest.map fun v => v.category).sum ≤ 8) (hdg : decode yb pc = .ok (.invokevirtual i, 3))
    (kk : ∀ (H1 : Heap) (locs1 : List Loc), Rel g xt h' H1 → (∀ q ∈ locs1, gb g ≤ q.base) → W p l e R s m args below meth c H1 locs1 (cells + (h'.1 - h.1)) (slots + (h'.2.1 - h.2.1)) Q (F0 m (pc + 3) ls (v.toList ++ rest))) : W p l e R s m args below meth c H locs cells slots Q (F0 m pc ls (as.reverse ++ .ref b :: rest)) := by
  obtain ⟨hx, hb, hml, hown, hts, hK⟩ := J
  have cw : CallB R s args own i y cb cm ret (Cond.code y cb cm ret :: tw) (jrm fr lc h h') (h'.1 - h.1) (h'.2.1 - h.2.1) n :=
    ⟨rfl, rfl, hR.1, hR.2, pay_in hts (jgood hcode), List.mem_cons_self, hts _ hcode, hts _ hini, hd, fun sig hsig => by rw [hsig] at hn; exact (Option.some.inj hn).symm, hts _ hlk⟩
  exact jx_call (av := (Value.ref b :: as).toArray) (va_runV (C := C) ⟨hx, hb, hml, hown, hts⟩ hM ⟨cw, hts _ hin, hts _ hse⟩ ⟨jblind hB, hrecv, fun U hU hW => ⟨rfl, ⟨by rw [hU]; exact hr, hK.warm hW⟩, hB.1 _ _ hW hBs⟩⟩ rfl hlen hls rfl (lv_room hW) hdg hroom) hlo kk
/-- static fields, fields -/
theorem jgets {C n d : String} {v : Value} {i : Nat} (J : JC p s m args c own yb ml g xt) (hr : Rel g xt h H) (hZ : va_Z C n d v (fun q => gb g ≤ q) s (gH g)) (hlink : Cond.fieldLink own i C n d ∈ tw) (hdg : decode yb pc = .ok (.getstatic i, 3))
    (kk : W p l e R s m args below meth c H locs cells slots Q (F0 m (pc + 3) ls (v :: rest))) : W p l e R s m args below meth c H locs cells slots Q (F0 m pc ls rest) := by
  obtain ⟨hx, hb, hml, hown, hts, hK⟩ := J
  obtain ⟨cf, kf, fi, f, a, cell, w1, w2, w3, w4, w5, w6, w7, w8⟩ := hZ
  exact W.gets hx hb hown (hts _ hlink) w1 w2 w3 w4 (by rw [hr.2.2.2.2.1 a (Nat.lt_of_not_le w8)]; exact w5) (fun z => by rw [z] at w6; cases w6) w7 rfl hdg kk
theorem jgetf {o n d : String} {v : Value} {i q : Nat} (J : JC p s m args c own yb ml g xt) (hr : Rel g xt h H) (hE : va_OF o n d v q (fun q => gb g ≤ q) s (gH g)) (hlink : Cond.fieldLink own i o n d ∈ tw) (hdg : decode yb pc = .ok (.getfield i, 3))
    (kk : W p l e R s m args below meth c H locs cells slots Q (F0 m (pc + 3) ls (v :: rest))) : W p l e R s m args below meth c H locs cells slots Q (F0 m pc ls (.ref q :: rest)) := by
  obtain ⟨hx, hb, hml, hown, hts, hK⟩ := J
  obtain ⟨cf, k, fi, f, cell, w1, w2, w3, w4, w5, w6⟩ := hE
  exact W.getf hx hb hown (hts _ hlink) w1 w2 (by rw [hr.2.2.2.2.1 q (Nat.lt_of_not_le w6)]; exact w3) w4 (v := v) w5 rfl rfl hdg kk
theorem jalen {ty : FieldType} {t N : Nat} {f : Nat → Value} (J : JC p s m args c own yb ml g xt) (hr : Rel g xt h H) (hT : va_T ty t N f (fun q => gb g ≤ q) s (gH g)) (hdg : decode yb pc = .ok (.arraylength, 1))
    (kk : W p l e R s m args below meth c H locs cells slots Q (F0 m (pc + 1) ls (.int (Int32.ofNat N) :: rest))) : W p l e R s m args below meth c H locs cells slots Q (F0 m pc ls (.ref t :: rest)) := by
  obtain ⟨hx, hb, hml, hown, hts, hK⟩ := J
  obtain ⟨cell, w1, w2, w3, w4, w5, w6, w7⟩ := hT
  exact W.alen (n := Int32.ofNat N) hx hb (by rw [hr.2.2.2.2.1 t (Nat.lt_of_not_le w7)]; exact w1) w2 w5 rfl rfl hdg kk
theorem jbald {t N : Nat} {f : Nat → Value} {j : Int32} {v : Value} (J : JC p s m args c own yb ml g xt) (hr : Rel g xt h H) (hT : va_T .byte t N f (fun q => gb g ≤ q) s (gH g)) (hin : ¬ (j < 0 ∨ N ≤ j.toNatClampNeg)) (hv : f j.toNatClampNeg = v) (hdg : decode yb pc = .ok (.baload, 1))
    (kk : W p l e R s m args below meth c H locs cells slots Q (F0 m (pc + 1) ls (v :: rest))) : W p l e R s m args below meth c H locs cells slots Q (F0 m pc ls (.int j :: .ref t :: rest)) := by
  obtain ⟨hx, hb, hml, hown, hts, hK⟩ := J
  obtain ⟨cell, w1, w2, w3, w4, w5, w6, w7⟩ := hT
  have hlt : j.toNatClampNeg < N := Nat.not_le.mp fun q => hin (Or.inr q)
  exact W.bald (v := v) hx hb (by rw [hr.2.2.2.2.1 t (Nat.lt_of_not_le w7)]; exact w1) w2 w3 (fun q => q.elim (fun z => hin (Or.inl z)) (fun z => by omega)) (by rw [w6 _ hlt, hv]) rfl rfl hdg kk
abbrev SJ : String := "java/lang/String"
def yJc : MethodName := ⟨"java/lang/String", "coder", "()B"⟩
def yJi : MethodName := ⟨"java/lang/String", "isLatin1", "()Z"⟩
def yJl : MethodName := ⟨"java/lang/String", "length", "()I"⟩
def yJa : MethodName := ⟨"java/lang/String", "charAt", "(I)C"⟩
def yJL : MethodName := ⟨"java/lang/StringLatin1", "charAt", "([BI)C"⟩
def yJk : MethodName := ⟨"java/lang/String", "checkIndex", "(II)V"⟩
def yJp : MethodName := ⟨"jdk/internal/util/Preconditions", "checkIndex", "(IILjava/util/function/BiFunction;)I"⟩
theorem jw_S : Cond.initialized "java/lang/String" ∈ tw ∧ Cond.initialized "java/lang/StringLatin1" ∈ tw ∧ Cond.initialized "jdk/internal/util/Preconditions" ∈ tw := ⟨tw_of (i := 122) (by decide +kernel) rfl, tw_of (i := 123) (by decide +kernel) rfl, tw_of (i := 124) (by decide +kernel) rfl⟩
theorem jw_c : Cond.methodLink SJ 335 yJc ∈ tw ∧ Cond.instanceMethod yJc ∈ tw ∧ Cond.selects SJ yJc yJc ∈ tw ∧ Cond.code yJc prog_18_method_152_code 1 (some .byte) ∈ tw ∧ Cond.fieldLink SJ 38 SJ "COMPACT_STRINGS" "Z" ∈ tw ∧ Cond.fieldLink SJ 15 SJ "coder" "B" ∈ tw ∧ Cond.fieldLink SJ 9 SJ "value" "[B" ∈ tw :=
  ⟨tw_of (i := 1010) (by decide +kernel) rfl, tw_of (i := 1011) (by decide +kernel) rfl, tw_of (i := 1012) (by decide +kernel) rfl, tw_of (i := 1013) (by decide +kernel) rfl, tw_of (i := 1014) (by decide +kernel) rfl, tw_of (i := 2249) (by decide +kernel) rfl, tw_of (i := 2248) (by decide +kernel) rfl⟩
theorem jw_i : Cond.methodLink SJ 492 yJi ∈ tw ∧ Cond.instanceMethod yJi ∈ tw ∧ Cond.selects SJ yJi yJi ∈ tw ∧ Cond.code yJi prog_18_method_154_code 1 (some .boolean) ∈ tw := ⟨tw_of (i := 1020) (by decide +kernel) rfl, tw_of (i := 1021) (by decide +kernel) rfl, tw_of (i := 1022) (by decide +kernel) rfl, tw_of (i := 1023) (by decide +kernel) rfl⟩
theorem jw_l : Cond.instanceMethod yJl ∈ tw ∧ Cond.selects SJ yJl yJl ∈ tw ∧ Cond.code yJl prog_18_method_54_code 1 (some .int) ∈ tw := ⟨tw_of (i := 1007) (by decide +kernel) rfl, tw_of (i := 1008) (by decide +kernel) rfl, tw_of (i := 1009) (by decide +kernel) rfl⟩
theorem jw_a : Cond.instanceMethod yJa ∈ tw ∧ Cond.selects SJ yJa yJa ∈ tw ∧ Cond.code yJa prog_18_method_56_code 2 (some .char) ∈ tw := ⟨tw_of (i := 1017) (by decide +kernel) rfl, tw_of (i := 1018) (by decide +kernel) rfl, tw_of (i := 1019) (by decide +kernel) rfl⟩
theorem jw_L : Cond.methodLink SJ 495 yJL ∈ tw ∧ Cond.static yJL ∈ tw ∧ Cond.code yJL prog_19_method_2_code 2 (some .char) ∈ tw ∧ Cond.methodLink "java/lang/StringLatin1" 9 yJk ∈ tw ∧ Cond.static yJk ∈ tw ∧ Cond.code yJk prog_18_method_155_code 2 none ∈ tw := ⟨tw_of (i := 1024) (by decide +kernel) rfl, tw_of (i := 1025) (by decide +kernel) rfl, tw_of (i := 1026) (by decide +kernel) rfl, tw_of (i := 1027) (by decide +kernel) rfl, tw_of (i := 1028) (by decide +kernel) rfl, tw_of (i := 1029) (by decide +kernel) rfl⟩
end JD
