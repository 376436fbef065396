/-! the JDK's own methods: Arrays.copyOf of ints, its contract; texts by their numbers -/
section JG
variable {l : Launch} {g : GX} {xt : XT} {h : HS}
def hcpy (h : HS) (o k : Nat) : HS := hnew h 20 k (fun j => if j < k then hI h o j else 0)
theorem cp_push {H H1 : Heap} {o k : Nat} {f : Nat → Int32} (hr : Rel g xt h H) (hf : ∀ j, j < k → f j = hI h o j) (z1 : H1.size = H.size + 1) (o1 : ∀ q, q < H.size → H1[q]? = H[q]?) (e1 : H1[H.size]? = some (vp_cell (gA g 0) (k, .inl f))) : Rel g xt (hcpy h o k) H1 := by
  refine hr.push (Or.inr ⟨by decide, by decide⟩) z1 o1 ?_
  have sT : hT (hnew h 20 k (fun j => if j < k then hI h o j else 0)) h.1 = 20 := if_pos rfl
  have sN : hN (hnew h 20 k (fun j => if j < k then hI h o j else 0)) h.1 = k := if_pos rfl
  have sI : (fun j => hI (hnew h 20 k (fun j => if j < k then hI h o j else 0)) h.1 j) = fun j => if j < k then hI h o j else 0 := funext fun j => if_pos rfl
  unfold cellE
  rw [sT, if_neg (by omega), ad_new hr]
  show H1[H.size]? = some (vp_cell (gA g 0) _)
  rw [e1, arrE_i (by omega), sN, sI]
  show some (arrV (gA g 0) k (fun j => .int (f j))) = some (arrV (gA g 0) k (fun j => .int (if j < k then hI h o j else 0)))
  congr 1
  unfold arrV
  congr 1
  congr 1
  funext j
  show Value.int (f j.val) = Value.int (if j.val < k then hI h o j.val else 0)
  rw [hf j.val j.isLt, if_pos j.isLt]
theorem jw_m : Cond.static Lib.Math.min.name ∈ tw ∧ Cond.code Lib.Math.min.name Lib.Math.min.code 2 (some .int) ∈ tw ∧ Cond.initialized "java/lang/Math" ∈ tw := ⟨tw_of (i := lkMa.getD 4 0) (by decide +kernel) rfl, tw_of (i := lkMa.getD 5 0) (by decide +kernel) rfl, tw_of (i := lkJ.getD 15 0) (by decide +kernel) rfl⟩
set_option maxRecDepth 100000 in
theorem J_cpy {o : Nat} {n : Int32} (ht : hT h o = 20) (hm : hN h o ≤ 1000000) (hn : ¬ (n < 0 ∨ hN h o < n.toNatClampNeg)) : JM l g xt (fun _ => True) yJC prog_22_method_123_code 3 (some (.array .int)) 3 100 [.ref (ad g o), .int n] h (some (.ref (ad g h.1))) (hcpy h o n.toNatClampNeg) := by
  refine JM.of (by decide) ?_
  intro p e R s m args below meth c J _ hlk hret hRm H hr
  obtain ⟨hx, hb, hml, hown, hts, hK⟩ := id J
  have hn0 : ¬ n < 0 := fun z => hn (Or.inl z)
  have hnN : n.toNatClampNeg ≤ hN h o := Nat.not_lt.mp fun z => hn (Or.inr z)
  have e0 : (hcpy h o n.toNatClampNeg).1 - h.1 = 1 := by show h.1 + 1 - h.1 = 1; omega
  have e1 : (hcpy h o n.toNatClampNeg).2.1 - h.2.1 = n.toNatClampNeg := by show h.2.1 + n.toNatClampNeg - h.2.1 = _; omega
  rw [e0, e1] at hRm
  rw [e0, e1]
  have hc : H[ad g o]? = some (vp_cell (gA g 0) (hN h o, .inl (fun j => hI h o j))) := by
    have := hr.arr (o := o) (by omega) (by omega)
    rw [ht, arrE_i (by omega)] at this
    exact this
  have hA : ArrOfT s (gA g 0) .int := (ks_arr hK (t := 20) ⟨by decide, by decide⟩).1
  have hRA : s.vm.findClass "[I" = some (gA g 0) := (ks_arr hK (t := 20) ⟨by decide, by decide⟩).2
  have o32 : 32 ≤ o := (hr.own (by omega)).1
  have L0 := lv_entry [.ref (ad g o), .int n] (n := 3) (by show 2 ≤ 3; decide)
  have hls : ((lg_sl [.ref (ad g o), .int n] ++ List.replicate (3 - (lg_sl [.ref (ad g o), .int n]).length) Slot.unset).toArray).size = 3 := rfl
  have l0 : ((lg_sl [.ref (ad g o), .int n] ++ List.replicate (3 - (lg_sl [.ref (ad g o), .int n]).length) Slot.unset).toArray)[0]? = some (.val (.ref (ad g o))) := rfl
  have l1 : ((lg_sl [.ref (ad g o), .int n] ++ List.replicate (3 - (lg_sl [.ref (ad g o), .int n]).length) Slot.unset).toArray)[1]? = some (.val (.int n)) := rfl
  generalize ((lg_sl [.ref (ad g o), .int n] ++ List.replicate (3 - (lg_sl [.ref (ad g o), .int n]).length) Slot.unset).toArray) = ls at *
  refine lv_iload_n (k := 1) (i := 1) (x := n) hx hb rfl rfl l1 ?_
  refine lv_aload_n (k := 0) (i := 0) (x := ad g o) hx hb rfl rfl l0 ?_
  refine W.alen (n := Int32.ofNat (hN h o)) hx hb hc (hA _ (fun j => .int (hI h o j))) (by show (arrV (gA g 0) (hN h o) (fun j => Value.int (hI h o j))).slots.size.toInt32 = _; rw [arrV_size]) rfl rfl rfl ?_
  refine lv_icmp_ne hx hb (x := n) (y := Int32.ofNat (hN h o)) (off := 11) (tgt := 14) rfl rfl (fun _ => ?_) (fun en => ?_)
  · -- a new array, copied into
    refine lv_iload_n (k := 1) (i := 1) (x := n) hx hb rfl rfl l1 ?_
    refine va_newaK hx hb (atype := .int) (hts _ arrW.1) rfl rfl rfl hn0 rfl (Nat.le_trans (Nat.mul_le_mul (Nat.le_trans hnN hm) (show componentBytes (newarray.typeOf .int) ≤ 8 by decide)) (by decide)) (by rw [hRm.2.2.1]; decide) (by rw [hRm.2.2.2]; omega) rfl fun H1 cA q1 z1 o1 hAr hNm => ?_
    have ecA : cA = gA g 0 := Option.some.inj (hNm.symm.trans hRA)
    subst ecA
    have hc' : H1[ad g o]? = some (vp_cell (gA g 0) (hN h o, .inl (fun j => hI h o j))) := by
      rw [o1 _ (Array.getElem?_eq_some_iff.mp hc).1]; exact hc
    refine lv_astore_n (k := 2) (i := 2) (nL := 3) (x := H.size) (lv := [(0, .ref (ad g o)), (1, .int n)]) (lv' := [(2, .ref H.size), (0, .ref (ad g o)), (1, .int n)]) hx hb rfl rfl ⟨hls, L0.2.1, fun q hq => by
      rcases List.mem_cons.mp hq with z | z
      · rw [z]; exact l0
      · rw [List.mem_singleton.mp z]; exact l1⟩ (by decide) rfl fun ls2 hl2 => ?_
    have m0 : ls2[0]? = some (.val (.ref (ad g o))) := hl2.2.2 (0, .ref (ad g o)) (by simp)
    have m1 : ls2[1]? = some (.val (.int n)) := hl2.2.2 (1, .int n) (by simp)
    have m2 : ls2[2]? = some (.val (.ref H.size)) := hl2.2.2 (2, .ref H.size) (by simp)
    refine lv_aload_n (k := 0) (i := 0) (x := ad g o) hx hb rfl rfl m0 ?_
    refine lv_iconst hx hb (n := 0) (v := 0) rfl rfl ?_
    refine lv_aload_n (k := 2) (i := 2) (x := H.size) hx hb rfl rfl m2 ?_
    refine lv_iconst hx hb (n := 0) (v := 0) rfl rfl ?_
    refine lv_aload_n (k := 0) (i := 0) (x := ad g o) hx hb rfl rfl m0 ?_
    refine W.alen (n := Int32.ofNat (hN h o)) hx hb hc' (hA _ (fun j => .int (hI h o j))) (by show (arrV (gA g 0) (hN h o) (fun j => Value.int (hI h o j))).slots.size.toInt32 = _; rw [arrV_size]) rfl rfl rfl ?_
    refine lv_iload_n (k := 1) (i := 1) (x := n) hx hb rfl rfl m1 ?_
    have emin : (if n < Int32.ofNat (hN h o) then n else Int32.ofNat (hN h o)) = n := by
      by_cases z : n < Int32.ofNat (hN h o)
      · rw [if_pos z]
      · rw [if_neg z]
        obtain ⟨j, hj, rfl⟩ := nI_of hn0
        rw [nI_clamp hj] at hnN
        have z : ¬ nI j < nI (hN h o) := z
        have : hN h o = j := by
          rcases Nat.lt_or_ge j (hN h o) with y | y
          · exact absurd (nI_lt y (by omega)) z
          · omega
        rw [this]
        rfl
    refine va_mmin hx hb (by rw [hml]; exact hl2.1.symm) hown (hts _ jw_y.1) (hts _ jw_m.1) (hts _ jw_m.2.2) (hts _ jw_m.2.1) (by rw [hRm.1]; decide) (by rw [hRm.2.1]; show 1 + (1 + (1 + (1 + 0))) + 13 ≤ 100; decide) (by rw [hRm.2.2.1]; decide) (by rw [hRm.2.2.2]; omega) rfl ?_
    rw [emin]
    refine jcopy (n1 := n.toNatClampNeg) (f1 := fun _ => 0) J hl2.1 hc' (by rw [q1]; rfl) hA hn0 hnN (Nat.le_refl _) (fun q hq => by cases hq) (by rw [hr.1]; exact Nat.le_add_right _ _) (by rw [hRm.1]; decide) (by rw [hRm.2.1]; decide) rfl fun locs1 hlo1 => ?_
    refine lv_aload_n (k := 2) (i := 2) (x := H.size) hx hb rfl rfl m2 ?_
    have hl : H.size < H1.size := by omega
    have hr1 : Rel g xt (hcpy h o n.toNatClampNeg) (H1.setIfInBounds H.size (vp_cell (gA g 0) (n.toNatClampNeg, .inl (va_cpy (fun j => hI h o j) (fun _ => 0) 0 0 n.toNatClampNeg)))) := by
      refine cp_push hr (f := va_cpy (fun j => hI h o j) (fun _ => 0) 0 0 n.toNatClampNeg) (fun j hj => ?_) (by simp [z1]) (fun q hq => ?_) (by simp [Array.getElem?_setIfInBounds, hl])
      · unfold va_cpy
        rw [if_pos ⟨Nat.zero_le _, by omega⟩, Nat.zero_add, Nat.sub_zero]
      · rw [← o1 q hq]
        simp [Array.getElem?_setIfInBounds, Nat.ne_of_gt hq]
    rw [← ad_new hr]
    have esl : 0 + n.toNatClampNeg = n.toNatClampNeg := Nat.zero_add _
    rw [esl]
    exact W.aret hx hb hret (Or.inr ⟨_, rfl⟩) (Or.inr ⟨_, rfl⟩) (fun t ht hW => ⟨rfl, by rw [ht, ad_new hr]; exact hr1⟩) hlo1 rfl hlk
  · -- a clone
    have enn : n.toNatClampNeg = hN h o := by
      rw [en]
      exact nI_clamp (by omega)
    refine lv_aload_n (k := 0) (i := 0) (x := ad g o) hx hb rfl rfl l0 ?_
    refine jclone J hls hc hA hRA (by rw [hRm.1]; decide) (by rw [hRm.2.1]; decide) (by rw [hRm.2.2.1]; decide) (by rw [hRm.2.2.2, enn]; omega) rfl ?_
    have hr1 : Rel g xt (hcpy h o n.toNatClampNeg) (H.push (vp_cell (gA g 0) (hN h o, .inl (fun j => hI h o j)))) := by
      rw [enn]
      exact cp_push hr (f := fun j => hI h o j) (fun _ _ => rfl) (Array.size_push _) (fun q hq => by rw [Array.getElem?_push, if_neg (Nat.ne_of_lt hq)]) Array.getElem?_push_size
    have hP : va_P (gD g) clsL [(H.size, .inl (gA g 0, (hN h o, .inl (fun j => hI h o j))))] (H.push (vp_cell (gA g 0) (hN h o, .inl (fun j => hI h o j)))) := by
      intro k q hq
      cases k with
      | zero => cases hq; exact Array.getElem?_push_size
      | succ k => cases hq
    refine va_castA hx hb hown (hts _ jw_n.2.2.2.2.2) hP 0 rfl hRA rfl ?_
    rw [← ad_new hr, ← enn]
    have esl : 0 + n.toNatClampNeg = n.toNatClampNeg := Nat.zero_add _
    rw [esl]
    exact W.aret hx hb hret (Or.inr ⟨_, rfl⟩) (Or.inr ⟨_, rfl⟩) (fun t ht hW => ⟨rfl, by rw [ht, enn]; rw [enn] at hr1; exact hr1⟩) (fun q hq => by cases hq) rfl hlk
theorem str_id {s : State} {H : Heap} {o : Nat} (hK : KS g xt s) (hr : Rel g xt h H) (ht : hT h o = 41) : ∃ i, i < 22 ∧ o = 2 + i ∧ hN h o = lenS.getD i 0 ∧ ∀ j, j < lenS.getD i 0 → hI h o j = (bytS.getD i []).getD j 0 := by
  have ho : o < 32 := by
    rcases Nat.lt_or_ge o 32 with z | z
    · exact z
    · rcases Nat.lt_or_ge o h.1 with y | y
      · have := (hr.2.2.1 o z y).2; omega
      · have := hr.2.2.2.1 o y; omega
  obtain ⟨e1, e2, e3, e4⟩ := hr.2.2.2.2.2 o ho
  have b := hK.2.2.2.2.2.2.2.2.2.2 o ho (e1.symm.trans ht)
  obtain ⟨q1, q2, q3⟩ := hK.2.2.2.2.2.2.2.1 (o - 2) (by omega)
  rw [show 2 + (o - 2) = o by omega] at q1 q2 q3
  exact ⟨o - 2, by omega, by omega, e2.trans q2, fun j hj => (e3 j).trans (q3 j hj)⟩
end JG
