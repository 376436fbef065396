/-! one step of the interpreter is one step of the machine -/
section ST
variable {p : Program} {l : Launch} {e : Env} {R : Room} {s : State} {m : MethodId} {args : Array Value} {below : List Frame} {meth : Method} {c : Code} {Q : State → Prop}
variable {g : GX} {xt : XT} {n0 s0 k : Nat}
/-- from every state of the machine that is as the interpreter's, the goal is reached -/
def Goal (p : Program) (l : Launch) (e : Env) (R : Room) (s : State) (m : MethodId) (args : Array Value) (below : List Frame) (meth : Method) (c : Code) (Q : State → Prop) (g : GX) (xt : XT) (n0 s0 k : Nat) (f : Cfg) : Prop :=
  ∀ (H : Heap) (locs : List Loc) (la : Array Slot), Rel g xt f.2.2.2 H → (∀ q ∈ locs, gb g ≤ q.base) → LR g la (qml k) f.2.1 → n0 ≤ f.2.2.2.1 → s0 ≤ f.2.2.2.2.1 →
    W p l e R s m args below meth c H locs (f.2.2.2.1 - n0) (f.2.2.2.2.1 - s0) Q (F0 m f.1 la (f.2.2.1.map (emb g)))
/-- what is known while a method runs -/
def Ctx (p : Program) (s : State) (m : MethodId) (args : Array Value) (meth : Method) (c : Code) (g : GX) (xt : XT) (k : Nat) : Prop :=
  k < 312 ∧ p.tables.exec = Jvm.exec ∧ c.code = qb k ∧ c.maxLocals = qml k ∧ s.vm.findClass (qy k).cls = some m.cls ∧ (∀ w ∈ tw, w.before args s = true) ∧ KS g xt s ∧ ((qy k).name = "<init>" → meth.name = "<init>")
theorem c_ii {f : Int32 → Int32 → Int32} {pc : Nat} {ls : Lo} {st : List Value} {h : HS} {f' : Cfg} (hs : iiOp f pc ls st h = some (.inl f'))
    (row : ∀ (x y : Int32) (rest : List Value) (H : Heap) (locs : List Loc) (cells slots : Nat) (la : Array Slot), W p l e R s m args below meth c H locs cells slots Q (F0 m (pc + 1) la (.int (f x y) :: rest)) → W p l e R s m args below meth c H locs cells slots Q (F0 m pc la (.int y :: .int x :: rest)))
    (kk : Goal p l e R s m args below meth c Q g xt n0 s0 k f') : Goal p l e R s m args below meth c Q g xt n0 s0 k (pc, ls, st, h) := by
  unfold iiOp at hs
  split at hs
  · cases hs
    intro H locs la hr hl hL h1 h2
    exact row _ _ _ H locs _ _ la (kk H locs la hr hl hL h1 h2)
  · cases hs
theorem c_iiC {f : Int32 → Int32 → Int32} {pc : Nat} {ls : Lo} {st : List Value} {h : HS} {f' : Cfg} (hs : iiOpC f pc ls st h = some (.inl f'))
    (row : ∀ (x y : Int32) (rest : List Value) (H : Heap) (locs : List Loc) (cells slots : Nat) (la : Array Slot), ¬ y = 0 → W p l e R s m args below meth c H locs cells slots Q (F0 m (pc + 1) la (.int (f x y) :: rest)) → W p l e R s m args below meth c H locs cells slots Q (F0 m pc la (.int y :: .int x :: rest)))
    (kk : Goal p l e R s m args below meth c Q g xt n0 s0 k f') : Goal p l e R s m args below meth c Q g xt n0 s0 k (pc, ls, st, h) := by
  unfold iiOpC at hs
  split at hs
  · split at hs
    · cases hs
    · next hy =>
      cases hs
      intro H locs la hr hl hL h1 h2
      exact row _ _ _ H locs _ _ la hy (kk H locs la hr hl hL h1 h2)
  · cases hs
theorem c_ll {f : Int64 → Int64 → Int64} {pc : Nat} {ls : Lo} {st : List Value} {h : HS} {f' : Cfg} (hs : llOp f pc ls st h = some (.inl f'))
    (row : ∀ (x y : Int64) (rest : List Value) (H : Heap) (locs : List Loc) (cells slots : Nat) (la : Array Slot), W p l e R s m args below meth c H locs cells slots Q (F0 m (pc + 1) la (.long (f x y) :: rest)) → W p l e R s m args below meth c H locs cells slots Q (F0 m pc la (.long y :: .long x :: rest)))
    (kk : Goal p l e R s m args below meth c Q g xt n0 s0 k f') : Goal p l e R s m args below meth c Q g xt n0 s0 k (pc, ls, st, h) := by
  unfold llOp at hs
  split at hs
  · cases hs
    intro H locs la hr hl hL h1 h2
    exact row _ _ _ H locs _ _ la (kk H locs la hr hl hL h1 h2)
  · cases hs
theorem c_ls {f : Int64 → Int32 → Int64} {pc : Nat} {ls : Lo} {st : List Value} {h : HS} {f' : Cfg} (hs : lsOp f pc ls st h = some (.inl f'))
    (row : ∀ (x : Int64) (y : Int32) (rest : List Value) (H : Heap) (locs : List Loc) (cells slots : Nat) (la : Array Slot), W p l e R s m args below meth c H locs cells slots Q (F0 m (pc + 1) la (.long (f x y) :: rest)) → W p l e R s m args below meth c H locs cells slots Q (F0 m pc la (.int y :: .long x :: rest)))
    (kk : Goal p l e R s m args below meth c Q g xt n0 s0 k f') : Goal p l e R s m args below meth c Q g xt n0 s0 k (pc, ls, st, h) := by
  unfold lsOp at hs
  split at hs
  · cases hs
    intro H locs la hr hl hL h1 h2
    exact row _ _ _ H locs _ _ la (kk H locs la hr hl hL h1 h2)
  · cases hs
theorem c_i {f : Int32 → Value} {pc : Nat} {ls : Lo} {st : List Value} {h : HS} {f' : Cfg} (hs : iOp f pc ls st h = some (.inl f'))
    (hf : ∀ x, emb g (f x) = f x)
    (row : ∀ (x : Int32) (rest : List Value) (H : Heap) (locs : List Loc) (cells slots : Nat) (la : Array Slot), W p l e R s m args below meth c H locs cells slots Q (F0 m (pc + 1) la (f x :: rest)) → W p l e R s m args below meth c H locs cells slots Q (F0 m pc la (.int x :: rest)))
    (kk : Goal p l e R s m args below meth c Q g xt n0 s0 k f') : Goal p l e R s m args below meth c Q g xt n0 s0 k (pc, ls, st, h) := by
  unfold iOp at hs
  split at hs
  · next x r =>
    cases hs
    intro H locs la hr hl hL h1 h2
    have := kk H locs la hr hl hL h1 h2
    rw [List.map_cons, hf] at this
    exact row _ _ H locs _ _ la this
  · cases hs
/-- a value is pushed -/
theorem c_push {v : Value} {pc pc' : Nat} {ls : Lo} {st : List Value} {h : HS} {f' : Cfg} (hs : nx pc' ls (v :: st) h = some (.inl f'))
    (row : ∀ (rest : List Value) (H : Heap) (locs : List Loc) (cells slots : Nat) (la : Array Slot), Rel g xt h H → W p l e R s m args below meth c H locs cells slots Q (F0 m pc' la (emb g v :: rest)) → W p l e R s m args below meth c H locs cells slots Q (F0 m pc la rest))
    (kk : Goal p l e R s m args below meth c Q g xt n0 s0 k f') : Goal p l e R s m args below meth c Q g xt n0 s0 k (pc, ls, st, h) := by
  cases hs
  intro H locs la hr hl hL h1 h2
  exact row _ H locs _ _ la hr (kk H locs la hr hl hL h1 h2)
theorem c_ldI {len i pc : Nat} {ls : Lo} {st : List Value} {h : HS} {f' : Cfg} (hs : ldI len i pc ls st h = some (.inl f'))
    (row : ∀ (x : Int32) (rest : List Value) (H : Heap) (locs : List Loc) (cells slots : Nat) (la : Array Slot), la[i]? = some (.val (.int x)) → W p l e R s m args below meth c H locs cells slots Q (F0 m (pc + len) la (.int x :: rest)) → W p l e R s m args below meth c H locs cells slots Q (F0 m pc la rest))
    (kk : Goal p l e R s m args below meth c Q g xt n0 s0 k f') : Goal p l e R s m args below meth c Q g xt n0 s0 k (pc, ls, st, h) := by
  unfold ldI at hs
  split at hs
  · next x hv =>
    cases hs
    intro H locs la hr hl hL h1 h2
    exact row x _ H locs _ _ la (hL.get hv) (kk H locs la hr hl hL h1 h2)
  · cases hs
theorem c_ldL {len i pc : Nat} {ls : Lo} {st : List Value} {h : HS} {f' : Cfg} (hs : ldL len i pc ls st h = some (.inl f'))
    (row : ∀ (x : Int64) (rest : List Value) (H : Heap) (locs : List Loc) (cells slots : Nat) (la : Array Slot), la[i]? = some (.val (.long x)) → W p l e R s m args below meth c H locs cells slots Q (F0 m (pc + len) la (.long x :: rest)) → W p l e R s m args below meth c H locs cells slots Q (F0 m pc la rest))
    (kk : Goal p l e R s m args below meth c Q g xt n0 s0 k f') : Goal p l e R s m args below meth c Q g xt n0 s0 k (pc, ls, st, h) := by
  unfold ldL at hs
  split at hs
  · next x hv =>
    cases hs
    intro H locs la hr hl hL h1 h2
    exact row x _ H locs _ _ la (hL.get hv) (kk H locs la hr hl hL h1 h2)
  · cases hs
theorem c_ldA {len i pc : Nat} {ls : Lo} {st : List Value} {h : HS} {f' : Cfg} (hs : ldA len i pc ls st h = some (.inl f'))
    (row : ∀ (x : Nat) (rest : List Value) (H : Heap) (locs : List Loc) (cells slots : Nat) (la : Array Slot), la[i]? = some (.val (.ref x)) → W p l e R s m args below meth c H locs cells slots Q (F0 m (pc + len) la (.ref x :: rest)) → W p l e R s m args below meth c H locs cells slots Q (F0 m pc la rest))
    (rowN : ∀ (rest : List Value) (H : Heap) (locs : List Loc) (cells slots : Nat) (la : Array Slot), la[i]? = some (.val .null) → W p l e R s m args below meth c H locs cells slots Q (F0 m (pc + len) la (.null :: rest)) → W p l e R s m args below meth c H locs cells slots Q (F0 m pc la rest))
    (kk : Goal p l e R s m args below meth c Q g xt n0 s0 k f') : Goal p l e R s m args below meth c Q g xt n0 s0 k (pc, ls, st, h) := by
  unfold ldA at hs
  split at hs
  · next x hv =>
    cases hs
    intro H locs la hr hl hL h1 h2
    exact row _ _ H locs _ _ la (hL.get hv) (kk H locs la hr hl hL h1 h2)
  · next hv =>
    cases hs
    intro H locs la hr hl hL h1 h2
    exact rowN _ H locs _ _ la (hL.get hv) (kk H locs la hr hl hL h1 h2)
  · cases hs
theorem c_soI {len i pc : Nat} {ls : Lo} {st : List Value} {h : HS} {f' : Cfg} (hs : soI len i pc ls st h = some (.inl f'))
    (row : ∀ (x : Int32) (rest : List Value) (H : Heap) (locs : List Loc) (cells slots : Nat) (la : Array Slot) (lv : List (Nat × Value)), lv_has la (qml k) lv → i < qml k → (∀ la' : Array Slot, lv_has la' (qml k) ((i, Value.int x) :: lv.filter (fun q => !(q.1 == i) && !(q.1 + 1 == i && q.2.category == 2))) → W p l e R s m args below meth c H locs cells slots Q (F0 m (pc + len) la' rest)) → W p l e R s m args below meth c H locs cells slots Q (F0 m pc la (.int x :: rest)))
    (kk : Goal p l e R s m args below meth c Q g xt n0 s0 k f') : Goal p l e R s m args below meth c Q g xt n0 s0 k (pc, ls, st, h) := by
  unfold soI at hs
  split at hs
  · split at hs
    · next x r hi =>
      cases hs
      intro H locs la hr hl hL h1 h2
      exact row x _ H locs _ _ la _ hL.2 (by rw [← hL.1]; exact hi) (fun la' h' => kk H locs la' hr hl (stl1_ok (v := .int x) hL.1 h') h1 h2)
    · cases hs
  · cases hs
theorem c_soL {len i pc : Nat} {ls : Lo} {st : List Value} {h : HS} {f' : Cfg} (hs : soL len i pc ls st h = some (.inl f'))
    (row : ∀ (x : Int64) (rest : List Value) (H : Heap) (locs : List Loc) (cells slots : Nat) (la : Array Slot) (lv : List (Nat × Value)), lv_has la (qml k) lv → i + 1 < qml k → (∀ la' : Array Slot, lv_has la' (qml k) ((i, Value.long x) :: lv.filter (fun q => !(q.1 == i) && (!(q.1 == i + 1) && !(q.1 + 1 == i && q.2.category == 2)))) → W p l e R s m args below meth c H locs cells slots Q (F0 m (pc + len) la' rest)) → W p l e R s m args below meth c H locs cells slots Q (F0 m pc la (.long x :: rest)))
    (kk : Goal p l e R s m args below meth c Q g xt n0 s0 k f') : Goal p l e R s m args below meth c Q g xt n0 s0 k (pc, ls, st, h) := by
  unfold soL at hs
  split at hs
  · split at hs
    · next x r hi =>
      cases hs
      intro H locs la hr hl hL h1 h2
      exact row x _ H locs _ _ la _ hL.2 (by rw [← hL.1]; exact hi) (fun la' h' => kk H locs la' hr hl (stl2_ok (v := .long x) hL.1 h') h1 h2)
    · cases hs
  · cases hs
theorem c_soA {len i pc : Nat} {ls : Lo} {st : List Value} {h : HS} {f' : Cfg} (hs : soA len i pc ls st h = some (.inl f'))
    (row : ∀ (x : Nat) (rest : List Value) (H : Heap) (locs : List Loc) (cells slots : Nat) (la : Array Slot) (lv : List (Nat × Value)), lv_has la (qml k) lv → i < qml k → (∀ la' : Array Slot, lv_has la' (qml k) ((i, Value.ref x) :: lv.filter (fun q => !(q.1 == i) && !(q.1 + 1 == i && q.2.category == 2))) → W p l e R s m args below meth c H locs cells slots Q (F0 m (pc + len) la' rest)) → W p l e R s m args below meth c H locs cells slots Q (F0 m pc la (.ref x :: rest)))
    (rowN : ∀ (rest : List Value) (H : Heap) (locs : List Loc) (cells slots : Nat) (la : Array Slot) (lv : List (Nat × Value)), lv_has la (qml k) lv → i < qml k → (∀ la' : Array Slot, lv_has la' (qml k) ((i, Value.null) :: lv.filter (fun q => !(q.1 == i) && !(q.1 + 1 == i && q.2.category == 2))) → W p l e R s m args below meth c H locs cells slots Q (F0 m (pc + len) la' rest)) → W p l e R s m args below meth c H locs cells slots Q (F0 m pc la (.null :: rest)))
    (kk : Goal p l e R s m args below meth c Q g xt n0 s0 k f') : Goal p l e R s m args below meth c Q g xt n0 s0 k (pc, ls, st, h) := by
  unfold soA at hs
  split at hs
  · split at hs
    · next x r hi =>
      cases hs
      intro H locs la hr hl hL h1 h2
      exact row _ _ H locs _ _ la _ hL.2 (by rw [← hL.1]; exact hi) (fun la' h' => kk H locs la' hr hl (stl1_ok (v := .ref x) hL.1 h') h1 h2)
    · cases hs
  · split at hs
    · next r hi =>
      cases hs
      intro H locs la hr hl hL h1 h2
      exact rowN _ H locs _ _ la _ hL.2 (by rw [← hL.1]; exact hi) (fun la' h' => kk H locs la' hr hl (stl1_ok (v := .null) hL.1 h') h1 h2)
    · cases hs
  · cases hs
end ST
