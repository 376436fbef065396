/-! runs without fuel; a row an instruction -/
noncomputable def ex (d k : Nat) (c : Cfg) : Option (Option Value × HS) := @dite _ (∃ r, ∃ n, run n d k c = some r) (Classical.propDecidable _) (fun h => some (Classical.choose h)) (fun _ => none)
theorem ex_of {n d k : Nat} {c : Cfg} {r : Option Value × HS} (h : run n d k c = some r) : ex d k c = some r := by
  unfold ex
  have he : ∃ r, ∃ n, run n d k c = some r := ⟨r, n, h⟩
  rw [dif_pos he]
  obtain ⟨m, hm⟩ := Classical.choose_spec he
  have h1 := run_more n d k c r h (max n m) (Nat.le_max_left _ _)
  have h2 := run_more m d k c _ hm (max n m) (Nat.le_max_right _ _)
  rw [h1] at h2
  exact h2.symm
theorem ex_run {d k : Nat} {c : Cfg} {r : Option Value × HS} (h : ex d k c = some r) : ∃ n, run n d k c = some r := by
  unfold ex at h
  by_cases he : ∃ r, ∃ n, run n d k c = some r
  · rw [dif_pos he] at h
    obtain ⟨m, hm⟩ := Classical.choose_spec he
    exact ⟨m, by rw [hm]; exact h⟩
  · rw [dif_neg he] at h
    cases h
theorem ex_step {d k : Nat} {c c' : Cfg} {r : Option Value × HS} (hs : stp k c = some (.inl c')) (h : ex d k c' = some r) : ex d k c = some r := by
  obtain ⟨n, hn⟩ := ex_run h
  exact ex_of (n := n + 1) (by unfold run; rw [hs]; exact hn)
theorem ex_end {d k : Nat} {c : Cfg} {v : Option Value} (hs : stp k c = some (.inr (.inl v))) : ex d k c = some (v, c.2.2.2) :=
  ex_of (n := 1) (by unfold run; rw [hs])
theorem ex_cal {d k k' : Nat} {as : List Value} {c c' : Cfg} {v : Option Value} {h1 : HS} {r : Option Value × HS} (hs : stp k c = some (.inr (.inr (k', as, c')))) (hl : (elocs as).length ≤ qml k') (hc : ex d k' (ent k' as c'.2.2.2) = some (v, h1)) (h : ex (d + 1) k (back c' v h1) = some r) : ex (d + 1) k c = some r := by
  obtain ⟨n, hn⟩ := ex_run hc
  obtain ⟨m, hm⟩ := ex_run h
  refine ex_of (n := max n m + 1) ?_
  unfold run
  rw [hs]
  simp only
  rw [if_pos hl, run_more n d k' _ _ hn (max n m) (Nat.le_max_left _ _)]
  exact run_more m (d + 1) k _ _ hm (max n m) (Nat.le_max_right _ _)
theorem stp_of {k pc a b : Nat} {ls : Lo} {st : List Value} {h : HS} {ins : Instr} {x : Int} (hf : fetch k pc = some (ins, a, b, x)) : stp k (pc, ls, st, h) = sti ins a b x pc ls st h := by
  unfold stp
  simp only
  rw [hf]
section EX
variable {d k pc a b : Nat} {x : Int} {ls : Lo} {st : List Value} {h : HS} {r : Option Value × HS}
theorem e_null  (hf : fetch k pc = some (.aconst_null, a, b, x))  (hk : ex d k (pc + 1, ls, .null :: st, h) = some r) : ex d k (pc, ls, st, h) = some r :=
  ex_step (by rw [stp_of hf]; rfl) hk
theorem e_iconst {n : Int} {v : Int32} (hf : fetch k pc = some (.iconst n, a, b, x)) (hv : Int32.ofInt n = v) (hk : ex d k (pc + 1, ls, .int v :: st, h) = some r) : ex d k (pc, ls, st, h) = some r :=
  ex_step (by rw [stp_of hf]; subst hv; rfl) hk
theorem e_bipush {n : Int} {v : Int32} (hf : fetch k pc = some (.bipush n, a, b, x)) (hv : (Int8.ofInt n).toInt32 = v) (hk : ex d k (pc + 2, ls, .int v :: st, h) = some r) : ex d k (pc, ls, st, h) = some r :=
  ex_step (by rw [stp_of hf]; subst hv; rfl) hk
theorem e_sipush {n : Int} {v : Int32} (hf : fetch k pc = some (.sipush n, a, b, x)) (hv : (Int16.ofInt n).toInt32 = v) (hk : ex d k (pc + 3, ls, .int v :: st, h) = some r) : ex d k (pc, ls, st, h) = some r :=
  ex_step (by rw [stp_of hf]; subst hv; rfl) hk
theorem e_lconst {n : Fin 2} {v : Int64} (hf : fetch k pc = some (.lconst n, a, b, x)) (hv : Int64.ofNat (n : Nat) = v) (hk : ex d k (pc + 1, ls, .long v :: st, h) = some r) : ex d k (pc, ls, st, h) = some r :=
  ex_step (by rw [stp_of hf]; subst hv; rfl) hk
theorem e_ldc2 {i : Nat} {v : Int64} (hf : fetch k pc = some (.ldc2_w i, a, b, x)) (hv : Int64.ofInt x = v) (hk : ex d k (pc + 3, ls, .long v :: st, h) = some r) : ex d k (pc, ls, st, h) = some r :=
  ex_step (by rw [stp_of hf]; subst hv; rfl) hk
theorem e_ldc {i : Nat} {v : Int32} (hf : fetch k pc = some (.ldc i, a, b, x)) (hb : ¬ b = 1) (hv : Int32.ofInt x = v) (hk : ex d k (pc + 2, ls, .int v :: st, h) = some r) : ex d k (pc, ls, st, h) = some r :=
  ex_step (by rw [stp_of hf]; subst hv; exact if_neg hb) hk
theorem e_ldcw {i : Nat} {v : Int32} (hf : fetch k pc = some (.ldc_w i, a, b, x)) (hb : ¬ b = 1) (hv : Int32.ofInt x = v) (hk : ex d k (pc + 3, ls, .int v :: st, h) = some r) : ex d k (pc, ls, st, h) = some r :=
  ex_step (by rw [stp_of hf]; subst hv; exact if_neg hb) hk
theorem e_ldcS {i : Nat} (hf : fetch k pc = some (.ldc i, a, b, x)) (hb : b = 1) (hk : ex d k (pc + 2, ls, .ref a :: st, h) = some r) : ex d k (pc, ls, st, h) = some r :=
  ex_step (by rw [stp_of hf]; exact if_pos hb) hk
theorem e_ldcwS {i : Nat} (hf : fetch k pc = some (.ldc_w i, a, b, x)) (hb : b = 1) (hk : ex d k (pc + 3, ls, .ref a :: st, h) = some r) : ex d k (pc, ls, st, h) = some r :=
  ex_step (by rw [stp_of hf]; exact if_pos hb) hk
theorem e_iload {i : Nat} {v : Int32} (hf : fetch k pc = some (.iload i, a, b, x)) (hl : ls[i]? = some (some (.int v))) (hk : ex d k (pc + 2, ls, .int v :: st, h) = some r) : ex d k (pc, ls, st, h) = some r :=
  ex_step (by rw [stp_of hf]; simp only [sti, ldI, hl]; rfl) hk
theorem e_iload_n {i : Fin 4} {v : Int32} (hf : fetch k pc = some (.iload_n i, a, b, x)) (hl : ls[(i : Nat)]? = some (some (.int v))) (hk : ex d k (pc + 1, ls, .int v :: st, h) = some r) : ex d k (pc, ls, st, h) = some r :=
  ex_step (by rw [stp_of hf]; simp only [sti, ldI, hl]; rfl) hk
theorem e_lload {i : Nat} {v : Int64} (hf : fetch k pc = some (.lload i, a, b, x)) (hl : ls[i]? = some (some (.long v))) (hk : ex d k (pc + 2, ls, .long v :: st, h) = some r) : ex d k (pc, ls, st, h) = some r :=
  ex_step (by rw [stp_of hf]; simp only [sti, ldL, hl]; rfl) hk
theorem e_lload_n {i : Fin 4} {v : Int64} (hf : fetch k pc = some (.lload_n i, a, b, x)) (hl : ls[(i : Nat)]? = some (some (.long v))) (hk : ex d k (pc + 1, ls, .long v :: st, h) = some r) : ex d k (pc, ls, st, h) = some r :=
  ex_step (by rw [stp_of hf]; simp only [sti, ldL, hl]; rfl) hk
theorem e_aload {i : Nat} {v : Nat} (hf : fetch k pc = some (.aload i, a, b, x)) (hl : ls[i]? = some (some (.ref v))) (hk : ex d k (pc + 2, ls, .ref v :: st, h) = some r) : ex d k (pc, ls, st, h) = some r :=
  ex_step (by rw [stp_of hf]; simp only [sti, ldA, hl]; rfl) hk
theorem e_aload_n {i : Fin 4} {v : Nat} (hf : fetch k pc = some (.aload_n i, a, b, x)) (hl : ls[(i : Nat)]? = some (some (.ref v))) (hk : ex d k (pc + 1, ls, .ref v :: st, h) = some r) : ex d k (pc, ls, st, h) = some r :=
  ex_step (by rw [stp_of hf]; simp only [sti, ldA, hl]; rfl) hk
theorem e_qload {i : Nat} {v : Option Nat} (hf : fetch k pc = some (.aload i, a, b, x)) (hl : ls[i]? = some (some (va_rf v))) (hk : ex d k (pc + 2, ls, va_rf v :: st, h) = some r) : ex d k (pc, ls, st, h) = some r :=
  ex_step (by rw [stp_of hf]; cases v <;> (simp only [sti, ldA, hl, va_rf]; rfl)) hk
theorem e_zload {i : Nat} (hf : fetch k pc = some (.aload i, a, b, x)) (hl : ls[i]? = some (some .null)) (hk : ex d k (pc + 2, ls, .null :: st, h) = some r) : ex d k (pc, ls, st, h) = some r :=
  ex_step (by rw [stp_of hf]; simp only [sti, ldA, hl]; rfl) hk
theorem e_qload_n {i : Fin 4} {v : Option Nat} (hf : fetch k pc = some (.aload_n i, a, b, x)) (hl : ls[(i : Nat)]? = some (some (va_rf v))) (hk : ex d k (pc + 1, ls, va_rf v :: st, h) = some r) : ex d k (pc, ls, st, h) = some r :=
  ex_step (by rw [stp_of hf]; cases v <;> (simp only [sti, ldA, hl, va_rf]; rfl)) hk
theorem e_zload_n {i : Fin 4} (hf : fetch k pc = some (.aload_n i, a, b, x)) (hl : ls[(i : Nat)]? = some (some .null)) (hk : ex d k (pc + 1, ls, .null :: st, h) = some r) : ex d k (pc, ls, st, h) = some r :=
  ex_step (by rw [stp_of hf]; simp only [sti, ldA, hl]; rfl) hk
theorem e_istore {i : Nat} {v : Int32} {ls2 : Lo} (hf : fetch k pc = some (.istore i, a, b, x)) (hi : i < ls.length) (hl : stl1 ls i (.int v) = ls2) (hk : ex d k (pc + 2, ls2, st, h) = some r) : ex d k (pc, ls, .int v :: st, h) = some r :=
  ex_step (by rw [stp_of hf]; subst hl; simp only [sti, soI, hi]; rfl) hk
theorem e_istore_n {i : Fin 4} {v : Int32} {ls2 : Lo} (hf : fetch k pc = some (.istore_n i, a, b, x)) (hi : (i : Nat) < ls.length) (hl : stl1 ls (i : Nat) (.int v) = ls2) (hk : ex d k (pc + 1, ls2, st, h) = some r) : ex d k (pc, ls, .int v :: st, h) = some r :=
  ex_step (by rw [stp_of hf]; subst hl; simp only [sti, soI, hi]; rfl) hk
theorem e_lstore {i : Nat} {v : Int64} {ls2 : Lo} (hf : fetch k pc = some (.lstore i, a, b, x)) (hi : i + 1 < ls.length) (hl : stl2 ls i (.long v) = ls2) (hk : ex d k (pc + 2, ls2, st, h) = some r) : ex d k (pc, ls, .long v :: st, h) = some r :=
  ex_step (by rw [stp_of hf]; subst hl; simp only [sti, soL, hi]; rfl) hk
theorem e_lstore_n {i : Fin 4} {v : Int64} {ls2 : Lo} (hf : fetch k pc = some (.lstore_n i, a, b, x)) (hi : (i : Nat) + 1 < ls.length) (hl : stl2 ls (i : Nat) (.long v) = ls2) (hk : ex d k (pc + 1, ls2, st, h) = some r) : ex d k (pc, ls, .long v :: st, h) = some r :=
  ex_step (by rw [stp_of hf]; subst hl; simp only [sti, soL, hi]; rfl) hk
theorem e_astore {i : Nat} {v : Nat} {ls2 : Lo} (hf : fetch k pc = some (.astore i, a, b, x)) (hi : i < ls.length) (hl : stl1 ls i (.ref v) = ls2) (hk : ex d k (pc + 2, ls2, st, h) = some r) : ex d k (pc, ls, .ref v :: st, h) = some r :=
  ex_step (by rw [stp_of hf]; subst hl; simp only [sti, soA, hi]; rfl) hk
theorem e_astore_n {i : Fin 4} {v : Nat} {ls2 : Lo} (hf : fetch k pc = some (.astore_n i, a, b, x)) (hi : (i : Nat) < ls.length) (hl : stl1 ls (i : Nat) (.ref v) = ls2) (hk : ex d k (pc + 1, ls2, st, h) = some r) : ex d k (pc, ls, .ref v :: st, h) = some r :=
  ex_step (by rw [stp_of hf]; subst hl; simp only [sti, soA, hi]; rfl) hk
theorem e_qstore {i : Nat} {v : Option Nat} {ls2 : Lo} (hf : fetch k pc = some (.astore i, a, b, x)) (hi : i < ls.length) (hl : stl1 ls i (va_rf v) = ls2) (hk : ex d k (pc + 2, ls2, st, h) = some r) : ex d k (pc, ls, va_rf v :: st, h) = some r :=
  ex_step (by rw [stp_of hf]; subst hl; cases v <;> (simp only [sti, soA, hi, va_rf]; rfl)) hk
theorem e_zstore {i : Nat} {ls2 : Lo} (hf : fetch k pc = some (.astore i, a, b, x)) (hi : i < ls.length) (hl : stl1 ls i .null = ls2) (hk : ex d k (pc + 2, ls2, st, h) = some r) : ex d k (pc, ls, .null :: st, h) = some r :=
  ex_step (by rw [stp_of hf]; subst hl; simp only [sti, soA, hi]; rfl) hk
theorem e_qstore_n {i : Fin 4} {v : Option Nat} {ls2 : Lo} (hf : fetch k pc = some (.astore_n i, a, b, x)) (hi : (i : Nat) < ls.length) (hl : stl1 ls (i : Nat) (va_rf v) = ls2) (hk : ex d k (pc + 1, ls2, st, h) = some r) : ex d k (pc, ls, va_rf v :: st, h) = some r :=
  ex_step (by rw [stp_of hf]; subst hl; cases v <;> (simp only [sti, soA, hi, va_rf]; rfl)) hk
theorem e_zstore_n {i : Fin 4} {ls2 : Lo} (hf : fetch k pc = some (.astore_n i, a, b, x)) (hi : (i : Nat) < ls.length) (hl : stl1 ls (i : Nat) .null = ls2) (hk : ex d k (pc + 1, ls2, st, h) = some r) : ex d k (pc, ls, .null :: st, h) = some r :=
  ex_step (by rw [stp_of hf]; subst hl; simp only [sti, soA, hi]; rfl) hk
theorem e_iinc {i : Nat} {n : Int} {v : Int32} {ls2 : Lo} (hf : fetch k pc = some (.iinc i n, a, b, x)) (ha : ¬ a = 6) (hv : ls[i]? = some (some (.int v))) (hl : stl1 ls i (.int (v + Int32.ofInt n)) = ls2) (hk : ex d k (pc + 3, ls2, st, h) = some r) : ex d k (pc, ls, st, h) = some r :=
  ex_step (by rw [stp_of hf]; subst hl; simp only [sti, hv]; rw [if_neg ha]; rfl) hk
theorem e_iadd {u v : Int32} (hf : fetch k pc = some (.iadd, a, b, x))  (hk : ex d k (pc + 1, ls, .int (u + v) :: st, h) = some r) : ex d k (pc, ls, .int v :: .int u :: st, h) = some r :=
  ex_step (by rw [stp_of hf]; rfl) hk
theorem e_isub {u v : Int32} (hf : fetch k pc = some (.isub, a, b, x))  (hk : ex d k (pc + 1, ls, .int (u - v) :: st, h) = some r) : ex d k (pc, ls, .int v :: .int u :: st, h) = some r :=
  ex_step (by rw [stp_of hf]; rfl) hk
theorem e_imul {u v : Int32} (hf : fetch k pc = some (.imul, a, b, x))  (hk : ex d k (pc + 1, ls, .int (u * v) :: st, h) = some r) : ex d k (pc, ls, .int v :: .int u :: st, h) = some r :=
  ex_step (by rw [stp_of hf]; rfl) hk
theorem e_iand {u v : Int32} (hf : fetch k pc = some (.iand, a, b, x))  (hk : ex d k (pc + 1, ls, .int (u &&& v) :: st, h) = some r) : ex d k (pc, ls, .int v :: .int u :: st, h) = some r :=
  ex_step (by rw [stp_of hf]; rfl) hk
theorem e_ior {u v : Int32} (hf : fetch k pc = some (.ior, a, b, x))  (hk : ex d k (pc + 1, ls, .int (u ||| v) :: st, h) = some r) : ex d k (pc, ls, .int v :: .int u :: st, h) = some r :=
  ex_step (by rw [stp_of hf]; rfl) hk
theorem e_ixor {u v : Int32} (hf : fetch k pc = some (.ixor, a, b, x))  (hk : ex d k (pc + 1, ls, .int (u ^^^ v) :: st, h) = some r) : ex d k (pc, ls, .int v :: .int u :: st, h) = some r :=
  ex_step (by rw [stp_of hf]; rfl) hk
theorem e_ishl {u v : Int32} (hf : fetch k pc = some (.ishl, a, b, x))  (hk : ex d k (pc + 1, ls, .int (u <<< (v &&& 31)) :: st, h) = some r) : ex d k (pc, ls, .int v :: .int u :: st, h) = some r :=
  ex_step (by rw [stp_of hf]; rfl) hk
theorem e_ishr {u v : Int32} (hf : fetch k pc = some (.ishr, a, b, x))  (hk : ex d k (pc + 1, ls, .int (u >>> (v &&& 31)) :: st, h) = some r) : ex d k (pc, ls, .int v :: .int u :: st, h) = some r :=
  ex_step (by rw [stp_of hf]; rfl) hk
theorem e_iushr {u v : Int32} (hf : fetch k pc = some (.iushr, a, b, x))  (hk : ex d k (pc + 1, ls, .int ((u.toUInt32 >>> (v.toUInt32 &&& Int32.toUInt32 31)).toInt32) :: st, h) = some r) : ex d k (pc, ls, .int v :: .int u :: st, h) = some r :=
  ex_step (by rw [stp_of hf]; rfl) hk
theorem e_idiv {u v : Int32} (hf : fetch k pc = some (.idiv, a, b, x)) (hv : ¬ v = 0) (hk : ex d k (pc + 1, ls, .int (u / v) :: st, h) = some r) : ex d k (pc, ls, .int v :: .int u :: st, h) = some r :=
  ex_step (by rw [stp_of hf]; exact if_neg hv) hk
theorem e_irem {u v : Int32} (hf : fetch k pc = some (.irem, a, b, x)) (hv : ¬ v = 0) (hk : ex d k (pc + 1, ls, .int (u - u / v * v) :: st, h) = some r) : ex d k (pc, ls, .int v :: .int u :: st, h) = some r :=
  ex_step (by rw [stp_of hf]; exact if_neg hv) hk
theorem e_ineg {v : Int32} (hf : fetch k pc = some (.ineg, a, b, x))  (hk : ex d k (pc + 1, ls, .int (-v) :: st, h) = some r) : ex d k (pc, ls, .int v :: st, h) = some r :=
  ex_step (by rw [stp_of hf]; rfl) hk
theorem e_i2l {v : Int32} (hf : fetch k pc = some (.i2l, a, b, x))  (hk : ex d k (pc + 1, ls, .long v.toInt64 :: st, h) = some r) : ex d k (pc, ls, .int v :: st, h) = some r :=
  ex_step (by rw [stp_of hf]; rfl) hk
theorem e_i2b {v : Int32} (hf : fetch k pc = some (.i2b, a, b, x))  (hk : ex d k (pc + 1, ls, .int v.toInt8.toInt32 :: st, h) = some r) : ex d k (pc, ls, .int v :: st, h) = some r :=
  ex_step (by rw [stp_of hf]; rfl) hk
theorem e_i2s {v : Int32} (hf : fetch k pc = some (.i2s, a, b, x))  (hk : ex d k (pc + 1, ls, .int v.toInt16.toInt32 :: st, h) = some r) : ex d k (pc, ls, .int v :: st, h) = some r :=
  ex_step (by rw [stp_of hf]; rfl) hk
theorem e_l2i {v : Int64} (hf : fetch k pc = some (.l2i, a, b, x))  (hk : ex d k (pc + 1, ls, .int v.toInt32 :: st, h) = some r) : ex d k (pc, ls, .long v :: st, h) = some r :=
  ex_step (by rw [stp_of hf]; rfl) hk
theorem e_ladd {u v : Int64} (hf : fetch k pc = some (.ladd, a, b, x))  (hk : ex d k (pc + 1, ls, .long (u + v) :: st, h) = some r) : ex d k (pc, ls, .long v :: .long u :: st, h) = some r :=
  ex_step (by rw [stp_of hf]; rfl) hk
theorem e_lsub {u v : Int64} (hf : fetch k pc = some (.lsub, a, b, x))  (hk : ex d k (pc + 1, ls, .long (u - v) :: st, h) = some r) : ex d k (pc, ls, .long v :: .long u :: st, h) = some r :=
  ex_step (by rw [stp_of hf]; rfl) hk
theorem e_lmul {u v : Int64} (hf : fetch k pc = some (.lmul, a, b, x))  (hk : ex d k (pc + 1, ls, .long (u * v) :: st, h) = some r) : ex d k (pc, ls, .long v :: .long u :: st, h) = some r :=
  ex_step (by rw [stp_of hf]; rfl) hk
theorem e_land {u v : Int64} (hf : fetch k pc = some (.land, a, b, x))  (hk : ex d k (pc + 1, ls, .long (u &&& v) :: st, h) = some r) : ex d k (pc, ls, .long v :: .long u :: st, h) = some r :=
  ex_step (by rw [stp_of hf]; rfl) hk
theorem e_lor {u v : Int64} (hf : fetch k pc = some (.lor, a, b, x))  (hk : ex d k (pc + 1, ls, .long (u ||| v) :: st, h) = some r) : ex d k (pc, ls, .long v :: .long u :: st, h) = some r :=
  ex_step (by rw [stp_of hf]; rfl) hk
theorem e_lxor {u v : Int64} (hf : fetch k pc = some (.lxor, a, b, x))  (hk : ex d k (pc + 1, ls, .long (u ^^^ v) :: st, h) = some r) : ex d k (pc, ls, .long v :: .long u :: st, h) = some r :=
  ex_step (by rw [stp_of hf]; rfl) hk
theorem e_lshl {u : Int64} {v : Int32} (hf : fetch k pc = some (.lshl, a, b, x))  (hk : ex d k (pc + 1, ls, .long (u <<< (v.toInt64 &&& 63)) :: st, h) = some r) : ex d k (pc, ls, .int v :: .long u :: st, h) = some r :=
  ex_step (by rw [stp_of hf]; rfl) hk
theorem e_lshr {u : Int64} {v : Int32} (hf : fetch k pc = some (.lshr, a, b, x))  (hk : ex d k (pc + 1, ls, .long (u >>> (v.toInt64 &&& 63)) :: st, h) = some r) : ex d k (pc, ls, .int v :: .long u :: st, h) = some r :=
  ex_step (by rw [stp_of hf]; rfl) hk
theorem e_lushr {u : Int64} {v : Int32} (hf : fetch k pc = some (.lushr, a, b, x))  (hk : ex d k (pc + 1, ls, .long ((u.toUInt64 >>> (v.toInt64.toUInt64 &&& Int64.toUInt64 63)).toInt64) :: st, h) = some r) : ex d k (pc, ls, .int v :: .long u :: st, h) = some r :=
  ex_step (by rw [stp_of hf]; rfl) hk
theorem e_lcmp {u v : Int64} (hf : fetch k pc = some (.lcmp, a, b, x))  (hk : ex d k (pc + 1, ls, .int (lg_cmp u v) :: st, h) = some r) : ex d k (pc, ls, .long v :: .long u :: st, h) = some r :=
  ex_step (by rw [stp_of hf]; rfl) hk
theorem e_dup {v : Value} (hf : fetch k pc = some (.dup, a, b, x)) (hc : v.category = 1) (hk : ex d k (pc + 1, ls, v :: v :: st, h) = some r) : ex d k (pc, ls, v :: st, h) = some r :=
  ex_step (by rw [stp_of hf]; exact if_pos hc) hk
theorem e_pop {v : Value} (hf : fetch k pc = some (.pop, a, b, x)) (hc : v.category = 1) (hk : ex d k (pc + 1, ls, st, h) = some r) : ex d k (pc, ls, v :: st, h) = some r :=
  ex_step (by rw [stp_of hf]; exact if_pos hc) hk
theorem e_dup_x1 {v u : Value} (hf : fetch k pc = some (.dup_x1, a, b, x)) (hc : v.category = 1) (hw : u.category = 1) (hk : ex d k (pc + 1, ls, v :: u :: v :: st, h) = some r) : ex d k (pc, ls, v :: u :: st, h) = some r :=
  ex_step (by rw [stp_of hf]; exact if_pos ⟨hc, hw⟩) hk
theorem e_dup2 {v u : Value} (hf : fetch k pc = some (.dup2, a, b, x)) (hc : v.category = 1) (hw : u.category = 1) (hk : ex d k (pc + 1, ls, v :: u :: v :: u :: st, h) = some r) : ex d k (pc, ls, v :: u :: st, h) = some r :=
  ex_step (by rw [stp_of hf]; exact if_pos ⟨hc, hw⟩) hk
theorem e_goto {o : Int} (hf : fetch k pc = some (.goto o, a, b, x))  (hk : ex d k (a, ls, st, h) = some r) : ex d k (pc, ls, st, h) = some r :=
  ex_step (by rw [stp_of hf]; rfl) hk
theorem e_if_eq_t {o : Int} {v : Int32} (hf : fetch k pc = some (.ifCond .eq o, a, b, x)) (hc : v = 0) (hk : ex d k (a, ls, st, h) = some r) : ex d k (pc, ls, .int v :: st, h) = some r :=
  ex_step (by rw [stp_of hf]; simp only [sti, brI, nx]; rw [if_pos hc]) hk
theorem e_if_eq_f {o : Int} {v : Int32} (hf : fetch k pc = some (.ifCond .eq o, a, b, x)) (hc : ¬ (v = 0)) (hk : ex d k (pc + 3, ls, st, h) = some r) : ex d k (pc, ls, .int v :: st, h) = some r :=
  ex_step (by rw [stp_of hf]; simp only [sti, brI, nx]; rw [if_neg hc]) hk
theorem e_if_ne_t {o : Int} {v : Int32} (hf : fetch k pc = some (.ifCond .ne o, a, b, x)) (hc : ¬ (v = 0)) (hk : ex d k (a, ls, st, h) = some r) : ex d k (pc, ls, .int v :: st, h) = some r :=
  ex_step (by rw [stp_of hf]; simp only [sti, brI, nx]; rw [if_neg hc]) hk
theorem e_if_ne_f {o : Int} {v : Int32} (hf : fetch k pc = some (.ifCond .ne o, a, b, x)) (hc : v = 0) (hk : ex d k (pc + 3, ls, st, h) = some r) : ex d k (pc, ls, .int v :: st, h) = some r :=
  ex_step (by rw [stp_of hf]; simp only [sti, brI, nx]; rw [if_pos hc]) hk
theorem e_if_lt_t {o : Int} {v : Int32} (hf : fetch k pc = some (.ifCond .lt o, a, b, x)) (hc : v < 0) (hk : ex d k (a, ls, st, h) = some r) : ex d k (pc, ls, .int v :: st, h) = some r :=
  ex_step (by rw [stp_of hf]; simp only [sti, brI, nx]; rw [if_pos hc]) hk
theorem e_if_lt_f {o : Int} {v : Int32} (hf : fetch k pc = some (.ifCond .lt o, a, b, x)) (hc : ¬ (v < 0)) (hk : ex d k (pc + 3, ls, st, h) = some r) : ex d k (pc, ls, .int v :: st, h) = some r :=
  ex_step (by rw [stp_of hf]; simp only [sti, brI, nx]; rw [if_neg hc]) hk
theorem e_if_ge_t {o : Int} {v : Int32} (hf : fetch k pc = some (.ifCond .ge o, a, b, x)) (hc : ¬ (v < 0)) (hk : ex d k (a, ls, st, h) = some r) : ex d k (pc, ls, .int v :: st, h) = some r :=
  ex_step (by rw [stp_of hf]; simp only [sti, brI, nx]; rw [if_neg hc]) hk
theorem e_if_ge_f {o : Int} {v : Int32} (hf : fetch k pc = some (.ifCond .ge o, a, b, x)) (hc : v < 0) (hk : ex d k (pc + 3, ls, st, h) = some r) : ex d k (pc, ls, .int v :: st, h) = some r :=
  ex_step (by rw [stp_of hf]; simp only [sti, brI, nx]; rw [if_pos hc]) hk
theorem e_if_gt_t {o : Int} {v : Int32} (hf : fetch k pc = some (.ifCond .gt o, a, b, x)) (hc : 0 < v) (hk : ex d k (a, ls, st, h) = some r) : ex d k (pc, ls, .int v :: st, h) = some r :=
  ex_step (by rw [stp_of hf]; simp only [sti, brI, nx]; rw [if_pos hc]) hk
theorem e_if_gt_f {o : Int} {v : Int32} (hf : fetch k pc = some (.ifCond .gt o, a, b, x)) (hc : ¬ (0 < v)) (hk : ex d k (pc + 3, ls, st, h) = some r) : ex d k (pc, ls, .int v :: st, h) = some r :=
  ex_step (by rw [stp_of hf]; simp only [sti, brI, nx]; rw [if_neg hc]) hk
theorem e_if_le_t {o : Int} {v : Int32} (hf : fetch k pc = some (.ifCond .le o, a, b, x)) (hc : ¬ (0 < v)) (hk : ex d k (a, ls, st, h) = some r) : ex d k (pc, ls, .int v :: st, h) = some r :=
  ex_step (by rw [stp_of hf]; simp only [sti, brI, nx]; rw [if_neg hc]) hk
theorem e_if_le_f {o : Int} {v : Int32} (hf : fetch k pc = some (.ifCond .le o, a, b, x)) (hc : 0 < v) (hk : ex d k (pc + 3, ls, st, h) = some r) : ex d k (pc, ls, .int v :: st, h) = some r :=
  ex_step (by rw [stp_of hf]; simp only [sti, brI, nx]; rw [if_pos hc]) hk
theorem e_icmp_eq_t {o : Int} {u v : Int32} (hf : fetch k pc = some (.if_icmp .eq o, a, b, x)) (hc : u = v) (hk : ex d k (a, ls, st, h) = some r) : ex d k (pc, ls, .int v :: .int u :: st, h) = some r :=
  ex_step (by rw [stp_of hf]; simp only [sti, brII, nx]; rw [if_pos hc]) hk
theorem e_icmp_eq_f {o : Int} {u v : Int32} (hf : fetch k pc = some (.if_icmp .eq o, a, b, x)) (hc : ¬ (u = v)) (hk : ex d k (pc + 3, ls, st, h) = some r) : ex d k (pc, ls, .int v :: .int u :: st, h) = some r :=
  ex_step (by rw [stp_of hf]; simp only [sti, brII, nx]; rw [if_neg hc]) hk
theorem e_icmp_ne_t {o : Int} {u v : Int32} (hf : fetch k pc = some (.if_icmp .ne o, a, b, x)) (hc : ¬ (u = v)) (hk : ex d k (a, ls, st, h) = some r) : ex d k (pc, ls, .int v :: .int u :: st, h) = some r :=
  ex_step (by rw [stp_of hf]; simp only [sti, brII, nx]; rw [if_neg hc]) hk
theorem e_icmp_ne_f {o : Int} {u v : Int32} (hf : fetch k pc = some (.if_icmp .ne o, a, b, x)) (hc : u = v) (hk : ex d k (pc + 3, ls, st, h) = some r) : ex d k (pc, ls, .int v :: .int u :: st, h) = some r :=
  ex_step (by rw [stp_of hf]; simp only [sti, brII, nx]; rw [if_pos hc]) hk
theorem e_icmp_lt_t {o : Int} {u v : Int32} (hf : fetch k pc = some (.if_icmp .lt o, a, b, x)) (hc : u < v) (hk : ex d k (a, ls, st, h) = some r) : ex d k (pc, ls, .int v :: .int u :: st, h) = some r :=
  ex_step (by rw [stp_of hf]; simp only [sti, brII, nx]; rw [if_pos hc]) hk
theorem e_icmp_lt_f {o : Int} {u v : Int32} (hf : fetch k pc = some (.if_icmp .lt o, a, b, x)) (hc : ¬ (u < v)) (hk : ex d k (pc + 3, ls, st, h) = some r) : ex d k (pc, ls, .int v :: .int u :: st, h) = some r :=
  ex_step (by rw [stp_of hf]; simp only [sti, brII, nx]; rw [if_neg hc]) hk
theorem e_icmp_ge_t {o : Int} {u v : Int32} (hf : fetch k pc = some (.if_icmp .ge o, a, b, x)) (hc : ¬ (u < v)) (hk : ex d k (a, ls, st, h) = some r) : ex d k (pc, ls, .int v :: .int u :: st, h) = some r :=
  ex_step (by rw [stp_of hf]; simp only [sti, brII, nx]; rw [if_neg hc]) hk
theorem e_icmp_ge_f {o : Int} {u v : Int32} (hf : fetch k pc = some (.if_icmp .ge o, a, b, x)) (hc : u < v) (hk : ex d k (pc + 3, ls, st, h) = some r) : ex d k (pc, ls, .int v :: .int u :: st, h) = some r :=
  ex_step (by rw [stp_of hf]; simp only [sti, brII, nx]; rw [if_pos hc]) hk
theorem e_icmp_gt_t {o : Int} {u v : Int32} (hf : fetch k pc = some (.if_icmp .gt o, a, b, x)) (hc : v < u) (hk : ex d k (a, ls, st, h) = some r) : ex d k (pc, ls, .int v :: .int u :: st, h) = some r :=
  ex_step (by rw [stp_of hf]; simp only [sti, brII, nx]; rw [if_pos hc]) hk
theorem e_icmp_gt_f {o : Int} {u v : Int32} (hf : fetch k pc = some (.if_icmp .gt o, a, b, x)) (hc : ¬ (v < u)) (hk : ex d k (pc + 3, ls, st, h) = some r) : ex d k (pc, ls, .int v :: .int u :: st, h) = some r :=
  ex_step (by rw [stp_of hf]; simp only [sti, brII, nx]; rw [if_neg hc]) hk
theorem e_icmp_le_t {o : Int} {u v : Int32} (hf : fetch k pc = some (.if_icmp .le o, a, b, x)) (hc : ¬ (v < u)) (hk : ex d k (a, ls, st, h) = some r) : ex d k (pc, ls, .int v :: .int u :: st, h) = some r :=
  ex_step (by rw [stp_of hf]; simp only [sti, brII, nx]; rw [if_neg hc]) hk
theorem e_icmp_le_f {o : Int} {u v : Int32} (hf : fetch k pc = some (.if_icmp .le o, a, b, x)) (hc : v < u) (hk : ex d k (pc + 3, ls, st, h) = some r) : ex d k (pc, ls, .int v :: .int u :: st, h) = some r :=
  ex_step (by rw [stp_of hf]; simp only [sti, brII, nx]; rw [if_pos hc]) hk
theorem e_ifnull_t {o : Int} (hf : fetch k pc = some (.ifnull o, a, b, x))  (hk : ex d k (a, ls, st, h) = some r) : ex d k (pc, ls, .null :: st, h) = some r :=
  ex_step (by rw [stp_of hf]; rfl) hk
theorem e_ifnull_f {o : Int} {v : Nat} (hf : fetch k pc = some (.ifnull o, a, b, x))  (hk : ex d k (pc + 3, ls, st, h) = some r) : ex d k (pc, ls, .ref v :: st, h) = some r :=
  ex_step (by rw [stp_of hf]; rfl) hk
theorem e_ifnonnull_f {o : Int} (hf : fetch k pc = some (.ifnonnull o, a, b, x))  (hk : ex d k (pc + 3, ls, st, h) = some r) : ex d k (pc, ls, .null :: st, h) = some r :=
  ex_step (by rw [stp_of hf]; rfl) hk
theorem e_ifnonnull_t {o : Int} {v : Nat} (hf : fetch k pc = some (.ifnonnull o, a, b, x))  (hk : ex d k (a, ls, st, h) = some r) : ex d k (pc, ls, .ref v :: st, h) = some r :=
  ex_step (by rw [stp_of hf]; rfl) hk
theorem e_sw {d0 lo hi : Int} {offs : Array Int} {v : Int32} {t : Nat} (hf : fetch k pc = some (.tableswitch d0 lo hi offs, a, b, x)) (hc : 0 ≤ (pc : Int) + swTo d0 lo hi offs v ∧ (hi - lo + 1).toNat ≤ offs.size) (ht : ((pc : Int) + swTo d0 lo hi offs v).toNat = t) (hk : ex d k (t, ls, st, h) = some r) : ex d k (pc, ls, .int v :: st, h) = some r :=
  ex_step (by rw [stp_of hf]; subst ht; exact if_pos hc) hk
theorem e_look {d0 : Int} {ps : Array (Int × Int)} {v : Int32} {t : Nat} (hf : fetch k pc = some (.lookupswitch d0 ps, a, b, x)) (hc : 0 ≤ (pc : Int) + Op.lookupswitch.offset ps.toList d0 v.toInt ∧ (ps.toList.zip (ps.toList.drop 1)).all (fun (a, next) => a.1 < next.1) = true) (ht : ((pc : Int) + Op.lookupswitch.offset ps.toList d0 v.toInt).toNat = t) (hk : ex d k (t, ls, st, h) = some r) : ex d k (pc, ls, .int v :: st, h) = some r :=
  ex_step (by rw [stp_of hf]; subst ht; exact if_pos hc) hk
theorem e_getI {i o : Nat} (hf : fetch k pc = some (.getfield i, a, b, x)) (ht : hT h o = a) (hx : ¬ x = 2) (hk : ex d k (pc + 3, ls, .int (hI h o b) :: st, h) = some r) : ex d k (pc, ls, .ref o :: st, h) = some r :=
  ex_step (by rw [stp_of hf]; exact (if_pos ht).trans (if_neg hx)) hk
theorem e_getQ {i o : Nat} (hf : fetch k pc = some (.getfield i, a, b, x)) (ht : hT h o = a) (hx : x = 2) (hk : ex d k (pc + 3, ls, va_rf (hR h o b) :: st, h) = some r) : ex d k (pc, ls, .ref o :: st, h) = some r :=
  ex_step (by rw [stp_of hf]; exact (if_pos ht).trans (if_pos hx)) hk
theorem e_getR {i o q : Nat} (hf : fetch k pc = some (.getfield i, a, b, x)) (ht : hT h o = a) (hx : x = 2) (hr : hR h o b = some q) (hk : ex d k (pc + 3, ls, .ref q :: st, h) = some r) : ex d k (pc, ls, .ref o :: st, h) = some r :=
  ex_step (by rw [stp_of hf]; refine (if_pos ht).trans ((if_pos hx).trans ?_); rw [hr]; rfl) hk
theorem e_putI {i o : Nat} {v : Int32} (hf : fetch k pc = some (.putfield i, a, b, x)) (ht : hT h o = a) (hx : x = 0) (hk : ex d k (pc + 3, ls, st, hsI h o b v) = some r) : ex d k (pc, ls, .int v :: .ref o :: st, h) = some r :=
  ex_step (by rw [stp_of hf]; exact (if_pos ht).trans (if_pos (Or.inl hx))) hk
theorem e_putZ {i o : Nat} {v : Int32} (hf : fetch k pc = some (.putfield i, a, b, x)) (ht : hT h o = a) (hx : x = 1) (hv : v = 0 ∨ v = 1) (hk : ex d k (pc + 3, ls, st, hsI h o b v) = some r) : ex d k (pc, ls, .int v :: .ref o :: st, h) = some r :=
  ex_step (by rw [stp_of hf]; exact (if_pos ht).trans (if_pos (Or.inr ⟨hx, hv⟩))) hk
theorem e_putR {i o v : Nat} (hf : fetch k pc = some (.putfield i, a, b, x)) (ht : hT h o = a) (hx : x = 2) (hk : ex d k (pc + 3, ls, st, hsR h o b (some v)) = some r) : ex d k (pc, ls, .ref v :: .ref o :: st, h) = some r :=
  ex_step (by rw [stp_of hf]; exact (if_pos ht).trans (if_pos hx)) hk
theorem e_putN {i o : Nat} (hf : fetch k pc = some (.putfield i, a, b, x)) (ht : hT h o = a) (hx : x = 2) (hk : ex d k (pc + 3, ls, st, hsR h o b none) = some r) : ex d k (pc, ls, .null :: .ref o :: st, h) = some r :=
  ex_step (by rw [stp_of hf]; exact (if_pos ht).trans (if_pos hx)) hk
theorem e_putQ {i o : Nat} {v : Option Nat} (hf : fetch k pc = some (.putfield i, a, b, x)) (ht : hT h o = a) (hx : x = 2) (hk : ex d k (pc + 3, ls, st, hsR h o b v) = some r) : ex d k (pc, ls, va_rf v :: .ref o :: st, h) = some r :=
  ex_step (by rw [stp_of hf]; cases v <;> exact (if_pos ht).trans (if_pos hx)) hk
theorem e_iaload {o n : Nat} {i : Int32} (hf : fetch k pc = some (.iaload, a, b, x)) (ht : hT h o = 20 ∨ hT h o = 40) (hn : hN h o = n) (hi : ¬ (i < 0 ∨ n ≤ i.toNatClampNeg)) (hk : ex d k (pc + 1, ls, .int (hI h o i.toNatClampNeg) :: st, h) = some r) : ex d k (pc, ls, .int i :: .ref o :: st, h) = some r :=
  ex_step (by rw [stp_of hf]; subst hn; exact (if_pos ht).trans (if_neg hi)) hk
theorem e_baload {o n : Nat} {i : Int32} (hf : fetch k pc = some (.baload, a, b, x)) (ht : hT h o = 21 ∨ hT h o = 22) (hn : hN h o = n) (hi : ¬ (i < 0 ∨ n ≤ i.toNatClampNeg)) (hk : ex d k (pc + 1, ls, .int (hI h o i.toNatClampNeg) :: st, h) = some r) : ex d k (pc, ls, .int i :: .ref o :: st, h) = some r :=
  ex_step (by rw [stp_of hf]; subst hn; exact (if_pos ht).trans (if_neg hi)) hk
theorem e_laload {o n : Nat} {i : Int32} (hf : fetch k pc = some (.laload, a, b, x)) (ht : hT h o = 23) (hn : hN h o = n) (hi : ¬ (i < 0 ∨ n ≤ i.toNatClampNeg)) (hk : ex d k (pc + 1, ls, .long (hL h o i.toNatClampNeg) :: st, h) = some r) : ex d k (pc, ls, .int i :: .ref o :: st, h) = some r :=
  ex_step (by rw [stp_of hf]; subst hn; exact (if_pos ht).trans (if_neg hi)) hk
theorem e_aaload {o n : Nat} {i : Int32} (hf : fetch k pc = some (.aaload, a, b, x)) (ht : hT h o = 24 ∨ hT h o = 25 ∨ hT h o = 26 ∨ hT h o = 27) (hn : hN h o = n) (hi : ¬ (i < 0 ∨ n ≤ i.toNatClampNeg)) (hk : ex d k (pc + 1, ls, va_rf (hR h o i.toNatClampNeg) :: st, h) = some r) : ex d k (pc, ls, .int i :: .ref o :: st, h) = some r :=
  ex_step (by rw [stp_of hf]; subst hn; exact (if_pos ht).trans (if_neg hi)) hk
theorem e_iastore {o n : Nat} {i v : Int32} (hf : fetch k pc = some (.iastore, a, b, x)) (ht : hT h o = 20) (hn : hN h o = n) (hi : ¬ (i < 0 ∨ n ≤ i.toNatClampNeg)) (hk : ex d k (pc + 1, ls, st, hsI h o i.toNatClampNeg v) = some r) : ex d k (pc, ls, .int v :: .int i :: .ref o :: st, h) = some r :=
  ex_step (by rw [stp_of hf]; subst hn; exact (if_pos ht).trans (if_neg hi)) hk
theorem e_bastore {o n : Nat} {i v : Int32} (hf : fetch k pc = some (.bastore, a, b, x)) (ht : hT h o = 21) (hn : hN h o = n) (hi : ¬ (i < 0 ∨ n ≤ i.toNatClampNeg)) (hk : ex d k (pc + 1, ls, st, hsI h o i.toNatClampNeg (vp_nar .byte v)) = some r) : ex d k (pc, ls, .int v :: .int i :: .ref o :: st, h) = some r :=
  ex_step (by rw [stp_of hf]; subst hn; exact (if_neg hi).trans (if_pos ht)) hk
theorem e_zastore {o n : Nat} {i v : Int32} (hf : fetch k pc = some (.bastore, a, b, x)) (ht : hT h o = 22) (hn : hN h o = n) (hi : ¬ (i < 0 ∨ n ≤ i.toNatClampNeg)) (hk : ex d k (pc + 1, ls, st, hsI h o i.toNatClampNeg (vp_nar .boolean v)) = some r) : ex d k (pc, ls, .int v :: .int i :: .ref o :: st, h) = some r :=
  ex_step (by rw [stp_of hf]; subst hn; exact (if_neg hi).trans ((if_neg (by rw [ht]; decide)).trans (if_pos ht))) hk
theorem e_lastore {o n : Nat} {i : Int32} {v : Int64} (hf : fetch k pc = some (.lastore, a, b, x)) (ht : hT h o = 23) (hn : hN h o = n) (hi : ¬ (i < 0 ∨ n ≤ i.toNatClampNeg)) (hk : ex d k (pc + 1, ls, st, hsL h o i.toNatClampNeg v) = some r) : ex d k (pc, ls, .long v :: .int i :: .ref o :: st, h) = some r :=
  ex_step (by rw [stp_of hf]; subst hn; exact (if_pos ht).trans (if_neg hi)) hk
theorem e_aastore {o n t v : Nat} {i : Int32} (hf : fetch k pc = some (.aastore, a, b, x)) (ht : hT h o = t) (h4 : t = 24 ∨ t = 25 ∨ t = 26 ∨ t = 27) (hv : hT h v = elT t) (hn : hN h o = n) (hi : ¬ (i < 0 ∨ n ≤ i.toNatClampNeg)) (hk : ex d k (pc + 1, ls, st, hsR h o i.toNatClampNeg (some v)) = some r) : ex d k (pc, ls, .ref v :: .int i :: .ref o :: st, h) = some r :=
  ex_step (by rw [stp_of hf]; subst hn; subst ht; exact (if_pos ⟨h4, hv⟩).trans (if_neg hi)) hk
theorem e_arraylength {o : Nat} {v : Int32} (hf : fetch k pc = some (.arraylength, a, b, x)) (ht : (20 ≤ hT h o ∧ hT h o < 28) ∨ hT h o = 40) (hn : Int32.ofNat (hN h o) = v) (hk : ex d k (pc + 1, ls, .int v :: st, h) = some r) : ex d k (pc, ls, .ref o :: st, h) = some r :=
  ex_step (by rw [stp_of hf]; subst hn; exact if_pos ht) hk
theorem e_newarray {t : ArrayType} {n : Int32} (hf : fetch k pc = some (.newarray t, a, b, x)) (hn : ¬ (n < 0 ∨ 1000000 < n)) (hk : ex d k (pc + 2, ls, .ref h.1 :: st, hnew h a n.toNatClampNeg (fun _ => 0)) = some r) : ex d k (pc, ls, .int n :: st, h) = some r :=
  ex_step (by rw [stp_of hf]; exact if_neg hn) hk
theorem e_anewarray {i : Nat} {n : Int32} (hf : fetch k pc = some (.anewarray i, a, b, x)) (hn : ¬ (n < 0 ∨ 1000000 < n)) (hk : ex d k (pc + 3, ls, .ref h.1 :: st, hnew h a n.toNatClampNeg (fun _ => 0)) = some r) : ex d k (pc, ls, .int n :: st, h) = some r :=
  ex_step (by rw [stp_of hf]; exact if_neg hn) hk
theorem e_new {i : Nat} (hf : fetch k pc = some (.new i, a, b, x))  (hk : ex d k (pc + 3, ls, .ref h.1 :: st, hnew h a b (fun _ => 0)) = some r) : ex d k (pc, ls, st, h) = some r :=
  ex_step (by rw [stp_of hf]; rfl) hk
theorem e_getstatic {i : Nat} (hf : fetch k pc = some (.getstatic i, a, b, x))  (hk : ex d k (pc + 3, ls, .ref 0 :: st, h) = some r) : ex d k (pc, ls, st, h) = some r :=
  ex_step (by rw [stp_of hf]; rfl) hk
theorem e_slen {i o : Nat} (hf : fetch k pc = some (.invokevirtual i, a, b, x)) (hx : x = 6) (ht : hT h o = 41) (hr : st.length ≤ 4) (hk : ex d k (pc + 3, ls, .int (Int32.ofNat (hN h o)) :: st, h) = some r) : ex d k (pc, ls, .ref o :: st, h) = some r :=
  ex_step (by rw [stp_of hf]; subst hx; exact if_pos ⟨ht, hr⟩) hk
theorem e_sch {i o : Nat} {j : Int32} (hf : fetch k pc = some (.invokevirtual i, a, b, x)) (hx : x = 7) (ht : hT h o = 41) (hr : st.length ≤ 4) (hj : ¬ (j < 0 ∨ hN h o ≤ j.toNatClampNeg)) (hk : ex d k (pc + 3, ls, .int (hI h o j.toNatClampNeg) :: st, h) = some r) : ex d k (pc, ls, .int j :: .ref o :: st, h) = some r :=
  ex_step (by rw [stp_of hf]; subst hx; exact (if_pos ⟨ht, hr⟩).trans (if_neg hj)) hk
theorem e_cpy {i o : Nat} {n : Int32} (hf : fetch k pc = some (.invokestatic i, a, b, x)) (hx : x = 8) (ht : hT h o = 20) (hr : st.length ≤ 4) (hm : hN h o ≤ 1000000) (hj : ¬ (n < 0 ∨ hN h o < n.toNatClampNeg)) (hk : ex d k (pc + 3, ls, .ref h.1 :: st, hnew h 20 n.toNatClampNeg (fun j => if j < n.toNatClampNeg then hI h o j else 0)) = some r) : ex d k (pc, ls, .int n :: .ref o :: st, h) = some r :=
  ex_step (by rw [stp_of hf]; subst hx; exact (if_pos ⟨ht, hr, hm⟩).trans (if_neg hj)) hk
theorem e_abs {i : Nat} {v : Int32} (hf : fetch k pc = some (.invokestatic i, a, b, x)) (hx : x = 9) (hr : st.length ≤ 4) (hk : ex d k (pc + 3, ls, .int (if 0 ≤ v then v else 0 - v) :: st, h) = some r) : ex d k (pc, ls, .int v :: st, h) = some r :=
  ex_step (by rw [stp_of hf]; subst hx; exact if_pos hr) hk
theorem e_min {i : Nat} {u v : Int32} (hf : fetch k pc = some (.invokestatic i, a, b, x)) (hx : x = 10) (hr : st.length ≤ 4) (hk : ex d k (pc + 3, ls, .int (if v < u then v else u) :: st, h) = some r) : ex d k (pc, ls, .int v :: .int u :: st, h) = some r :=
  ex_step (by rw [stp_of hf]; subst hx; exact if_pos hr) hk
theorem e_minL {i : Nat} {u v : Int64} (hf : fetch k pc = some (.invokestatic i, a, b, x)) (hx : x = 11) (hr : st.length ≤ 4) (hk : ex d k (pc + 3, ls, .long (if v < u then v else u) :: st, h) = some r) : ex d k (pc, ls, .long v :: .long u :: st, h) = some r :=
  ex_step (by rw [stp_of hf]; subst hx; exact if_pos hr) hk
theorem e_obj {i o : Nat} (hf : fetch k pc = some (.invokespecial i, a, b, x)) (hx : x = 5) (hr : st.length ≤ 4) (hk : ex d k (pc + 3, ls, st, h) = some r) : ex d k (pc, ls, .ref o :: st, h) = some r :=
  ex_step (by rw [stp_of hf]; subst hx; exact if_pos hr) hk
theorem e_ireturn {v : Int32} (hf : fetch k pc = some (.ireturn, a, b, x)) (hv : x = 0 ∨ v = 0 ∨ v = 1) : ex d k (pc, ls, [.int v], h) = some (some (.int v), h) := ex_end (by rw [stp_of hf]; exact if_pos hv)
theorem e_lreturn {v : Int64} (hf : fetch k pc = some (.lreturn, a, b, x)) : ex d k (pc, ls, [.long v], h) = some (some (.long v), h) := ex_end (by rw [stp_of hf]; rfl)
theorem e_areturn {v : Option Nat} (hf : fetch k pc = some (.areturn, a, b, x)) : ex d k (pc, ls, [va_rf v], h) = some (some (va_rf v), h) := ex_end (by rw [stp_of hf]; cases v <;> rfl)
theorem e_return (hf : fetch k pc = some (.return_, a, b, x)) : ex d k (pc, ls, [], h) = some (none, h) := ex_end (by rw [stp_of hf]; rfl)
theorem call_S {n : Nat} {as st0 : List Value} (hst : st0 = as.reverse ++ st) (hn : as.length = n) (hr : stOk st = true) : callF false a n pc ls st0 h = some (.inr (.inr (a, as, (pc + 3, ls, st, h)))) := by
  subst hst
  have e1 : (as.reverse ++ st).drop n = st := by rw [← hn, ← List.length_reverse, List.drop_left]
  have e2 : ((as.reverse ++ st).take n).reverse = as := by rw [← hn, ← List.length_reverse, List.take_left, List.reverse_reverse]
  unfold callF
  rw [if_pos (by rw [List.length_append, List.length_reverse]; omega), e1, e2]
  simp only
  rw [if_pos hr]
theorem call_V {n o : Nat} {as st0 : List Value} (hst : st0 = as.reverse ++ .ref o :: st) (hn : as.length = n) (hr : stOk st = true) (ho : hT h o = qo a) : callF true a n pc ls st0 h = some (.inr (.inr (a, .ref o :: as, (pc + 3, ls, st, h)))) := by
  subst hst
  have e1 : (as.reverse ++ .ref o :: st).drop n = .ref o :: st := by rw [← hn, ← List.length_reverse, List.drop_left]
  have e2 : ((as.reverse ++ .ref o :: st).take n).reverse = as := by rw [← hn, ← List.length_reverse, List.take_left, List.reverse_reverse]
  unfold callF
  rw [if_pos (by rw [List.length_append, List.length_reverse]; omega), e1, e2]
  simp only
  rw [if_pos ⟨hr, ho⟩]
theorem e_callS {i : Nat} {as st0 : List Value} {v : Option Value} {h1 : HS} (hf : fetch k pc = some (.invokestatic i, a, b, x)) (hx : x = 1 ∨ x = 2) (hst : st0 = as.reverse ++ st) (hn : as.length = b) (hr : st.length ≤ 4) (hl : (elocs as).length ≤ qml a) (hc : ex d a (ent a as h) = some (v, h1)) (hk : ex (d + 1) k (pc + 3, ls, v.toList ++ st, h1) = some r) : ex (d + 1) k (pc, ls, st0, h) = some r :=
  ex_cal (c' := (pc + 3, ls, st, h)) (by rw [stp_of hf]; exact (if_pos hx).trans (call_S hst hn (stOk_4 hr))) hl hc hk
theorem e_callV {i o : Nat} {as st0 : List Value} {v : Option Value} {h1 : HS} (hf : fetch k pc = some (.invokevirtual i, a, b, x)) (hx : x = 0) (hst : st0 = as.reverse ++ .ref o :: st) (hn : as.length = b) (hr : st.length ≤ 4) (ho : hT h o = qo a) (hl : (elocs (.ref o :: as)).length ≤ qml a) (hc : ex d a (ent a (.ref o :: as) h) = some (v, h1)) (hk : ex (d + 1) k (pc + 3, ls, v.toList ++ st, h1) = some r) : ex (d + 1) k (pc, ls, st0, h) = some r :=
  ex_cal (c' := (pc + 3, ls, st, h)) (by rw [stp_of hf]; exact (if_pos hx).trans (call_V hst hn (stOk_4 hr) ho)) hl hc hk
theorem e_callV8 {i o : Nat} {as st0 : List Value} {v : Option Value} {h1 : HS} (hf : fetch k pc = some (.invokevirtual i, a, b, x)) (hx : x = 0) (hst : st0 = as.reverse ++ .ref o :: st) (hn : as.length = b) (hr : stOk st = true) (ho : hT h o = qo a) (hl : (elocs (.ref o :: as)).length ≤ qml a) (hc : ex d a (ent a (.ref o :: as) h) = some (v, h1)) (hk : ex (d + 1) k (pc + 3, ls, v.toList ++ st, h1) = some r) : ex (d + 1) k (pc, ls, st0, h) = some r :=
  ex_cal (c' := (pc + 3, ls, st, h)) (by rw [stp_of hf]; exact (if_pos hx).trans (call_V hst hn hr ho)) hl hc hk
theorem e_callI {i o : Nat} {as st0 : List Value} {v : Option Value} {h1 : HS} (hf : fetch k pc = some (.invokespecial i, a, b, x)) (hx : x = 3 ∨ x = 4) (hst : st0 = as.reverse ++ .ref o :: st) (hn : as.length = b) (hr : st.length ≤ 4) (ho : hT h o = qo a) (hl : (elocs (.ref o :: as)).length ≤ qml a) (hc : ex d a (ent a (.ref o :: as) h) = some (v, h1)) (hk : ex (d + 1) k (pc + 3, ls, v.toList ++ st, h1) = some r) : ex (d + 1) k (pc, ls, st0, h) = some r :=
  ex_cal (c' := (pc + 3, ls, st, h)) (by rw [stp_of hf]; exact (if_pos hx).trans (call_V hst hn (stOk_4 hr) ho)) hl hc hk
end EX
