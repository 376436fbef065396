set_option maxRecDepth 100000 in
set_option maxHeartbeats 4000000 in
theorem p306_lb0_ok (d : Nat) (F : Nat) (K18 : HS → Int32 → Option (Int32 × HS)) (hK18 : ∀ (h : HS) (w : WF h) (u3 : Int32) (r : Int32 × HS), K18 h u3 = some r → ex (d + 66) 306 (18, [some (.ref (1)), some (.ref (32)), some (.ref (86)), some (.int (u3))], [], h) = some (some (.int (r.1)), r.2)) (h : HS) (w : WF h) (v3 : Int32) (r : Int32 × HS) (hp : lb0 F K18 h v3 = some r) : ex (d + 66) 306 (256, [some (.ref (1)), some (.ref (32)), some (.ref (86)), some (.int (v3))], [], h) = some (some (.int (r.1)), r.2) := by
  unfold lb0 at hp
  refine e_aload_n f306_256 rfl ?_
  refine e_aload_n f306_257 rfl ?_
  refine e_iload_n f306_258 rfl ?_
  refine e_iconst (v := 1) f306_259 (by decide) ?_
  refine e_iadd f306_260 ?_
  by_cases hg4 : ((v3) + (1)) < (0 : Int32) ∨ hN (h) (1) ≤ ((v3) + (1)).toNatClampNeg
  · rw [if_pos hg4] at hp; cases hp
  rw [if_neg hg4] at hp
  refine e_iaload f306_261 (Or.inr (WF.x w 1 (by decide))) rfl hg4 ?_
  obtain ⟨r5, hr6, hp⟩ := bind_some hp
  try dsimp only at hp
  refine e_callV (st := []) (o := 32) (as := [.int (hI (h) (1) ((v3) + (1)).toNatClampNeg)]) f306_262 (by decide) rfl rfl (Nat.le_of_ble_eq_true rfl) (WF.t w 32 (by decide)) (Nat.le_of_ble_eq_true rfl) (p114_ok (d + 64) (h) w (hI (h) (1) ((v3) + (1)).toNatClampNeg) r5 hr6) ?_
  show ex _ 306 (265, [some (.ref (1)), some (.ref (32)), some (.ref (86)), some (.int (v3))], [.int (r5.1)], r5.2) = _
  refine e_aload_n f306_265 rfl ?_
  refine e_aload_n f306_266 rfl ?_
  refine e_iload_n f306_267 rfl ?_
  refine e_iconst (v := 1) f306_268 (by decide) ?_
  refine e_iadd f306_269 ?_
  by_cases hg7 : ((v3) + (1)) < (0 : Int32) ∨ hN (r5.2) (1) ≤ ((v3) + (1)).toNatClampNeg
  · rw [if_pos hg7] at hp; cases hp
  rw [if_neg hg7] at hp
  refine e_iaload f306_270 (Or.inr (WF.x (p114_w (h) w (hI (h) (1) ((v3) + (1)).toNatClampNeg)  r5 hr6) 1 (by decide))) rfl hg7 ?_
  obtain ⟨r8, hr9, hp⟩ := bind_some hp
  try dsimp only at hp
  refine e_callV (st := [.int (r5.1)]) (o := 86) (as := [.int (hI (r5.2) (1) ((v3) + (1)).toNatClampNeg)]) f306_271 (by decide) rfl rfl (Nat.le_of_ble_eq_true rfl) (WF.t (p114_w (h) w (hI (h) (1) ((v3) + (1)).toNatClampNeg)  r5 hr6) 86 (by decide)) (Nat.le_of_ble_eq_true rfl) (p190_ok (d + 64) (r5.2) (p114_w (h) w (hI (h) (1) ((v3) + (1)).toNatClampNeg)  r5 hr6) (hI (r5.2) (1) ((v3) + (1)).toNatClampNeg) r8 hr9) ?_
  show ex _ 306 (274, [some (.ref (1)), some (.ref (32)), some (.ref (86)), some (.int (v3))], [.int (r8.1), .int (r5.1)], r8.2) = _
  by_cases hc10 : (r5.1) = ((r8.1) : Int32)
  · rw [if_pos hc10] at hp
    refine e_icmp_eq_t f306_274 hc10 ?_
    refine ex_weak (ls := [some (.ref (1)), some (.ref (32)), some (.ref (86)), some (.int (v3))]) (le2_ok ⟨Or.inr rfl, Or.inr rfl, Or.inr rfl, Or.inr rfl, trivial⟩) ?_
    exact p306_j2120_ok d F (K18) (hK18) (r8.2) ((p190_w (r5.2) (p114_w (h) w (hI (h) (1) ((v3) + (1)).toNatClampNeg)  r5 hr6) (hI (r5.2) (1) ((v3) + (1)).toNatClampNeg)  r8 hr9)) (v3) _ hp
  · rw [if_neg hc10] at hp
    refine e_icmp_eq_f f306_274 hc10 ?_
    refine e_iconst (v := 0) f306_277 (by decide) ?_
    have hp := Option.some.inj hp
    subst hp
    exact e_ireturn f306_278 (by decide)
set_option maxRecDepth 100000 in
set_option maxHeartbeats 4000000 in
theorem p306_lb1_ok (d : Nat) (F : Nat) (K18 : HS → Int32 → Option (Int32 × HS)) (hK18 : ∀ (h : HS) (w : WF h) (u3 : Int32) (r : Int32 × HS), K18 h u3 = some r → ex (d + 66) 306 (18, [some (.ref (1)), some (.ref (32)), some (.ref (86)), some (.int (u3))], [], h) = some (some (.int (r.1)), r.2)) (h : HS) (w : WF h) (v3 : Int32) (r : Int32 × HS) (hp : lb1 F K18 h v3 = some r) : ex (d + 66) 306 (279, [some (.ref (1)), some (.ref (32)), some (.ref (86)), some (.int (v3))], [], h) = some (some (.int (r.1)), r.2) := by
  unfold lb1 at hp
  refine e_aload_n f306_279 rfl ?_
  refine e_aload_n f306_280 rfl ?_
  refine e_iload_n f306_281 rfl ?_
  refine e_iconst (v := 1) f306_282 (by decide) ?_
  refine e_iadd f306_283 ?_
  by_cases hg12 : ((v3) + (1)) < (0 : Int32) ∨ hN (h) (1) ≤ ((v3) + (1)).toNatClampNeg
  · rw [if_pos hg12] at hp; cases hp
  rw [if_neg hg12] at hp
  refine e_iaload f306_284 (Or.inr (WF.x w 1 (by decide))) rfl hg12 ?_
  obtain ⟨r13, hr14, hp⟩ := bind_some hp
  try dsimp only at hp
  refine e_callV (st := []) (o := 32) (as := [.int (hI (h) (1) ((v3) + (1)).toNatClampNeg)]) f306_285 (by decide) rfl rfl (Nat.le_of_ble_eq_true rfl) (WF.t w 32 (by decide)) (Nat.le_of_ble_eq_true rfl) (p115_ok (d + 63) (h) w (hI (h) (1) ((v3) + (1)).toNatClampNeg) r13 hr14) ?_
  show ex _ 306 (288, [some (.ref (1)), some (.ref (32)), some (.ref (86)), some (.int (v3))], [.int (r13.1)], r13.2) = _
  refine e_aload_n f306_288 rfl ?_
  refine e_aload_n f306_289 rfl ?_
  refine e_iload_n f306_290 rfl ?_
  refine e_iconst (v := 1) f306_291 (by decide) ?_
  refine e_iadd f306_292 ?_
  by_cases hg15 : ((v3) + (1)) < (0 : Int32) ∨ hN (r13.2) (1) ≤ ((v3) + (1)).toNatClampNeg
  · rw [if_pos hg15] at hp; cases hp
  rw [if_neg hg15] at hp
  refine e_iaload f306_293 (Or.inr (WF.x (p115_w (h) w (hI (h) (1) ((v3) + (1)).toNatClampNeg)  r13 hr14) 1 (by decide))) rfl hg15 ?_
  obtain ⟨r16, hr17, hp⟩ := bind_some hp
  try dsimp only at hp
  refine e_callV (st := [.int (r13.1)]) (o := 86) (as := [.int (hI (r13.2) (1) ((v3) + (1)).toNatClampNeg)]) f306_294 (by decide) rfl rfl (Nat.le_of_ble_eq_true rfl) (WF.t (p115_w (h) w (hI (h) (1) ((v3) + (1)).toNatClampNeg)  r13 hr14) 86 (by decide)) (Nat.le_of_ble_eq_true rfl) (p191_ok (d + 64) (r13.2) (p115_w (h) w (hI (h) (1) ((v3) + (1)).toNatClampNeg)  r13 hr14) (hI (r13.2) (1) ((v3) + (1)).toNatClampNeg) r16 hr17) ?_
  show ex _ 306 (297, [some (.ref (1)), some (.ref (32)), some (.ref (86)), some (.int (v3))], [.int (r16.1), .int (r13.1)], r16.2) = _
  by_cases hc18 : (r13.1) = ((r16.1) : Int32)
  · rw [if_pos hc18] at hp
    refine e_icmp_eq_t f306_297 hc18 ?_
    refine ex_weak (ls := [some (.ref (1)), some (.ref (32)), some (.ref (86)), some (.int (v3))]) (le2_ok ⟨Or.inr rfl, Or.inr rfl, Or.inr rfl, Or.inr rfl, trivial⟩) ?_
    exact p306_j2120_ok d F (K18) (hK18) (r16.2) ((p191_w (r13.2) (p115_w (h) w (hI (h) (1) ((v3) + (1)).toNatClampNeg)  r13 hr14) (hI (r13.2) (1) ((v3) + (1)).toNatClampNeg)  r16 hr17)) (v3) _ hp
  · rw [if_neg hc18] at hp
    refine e_icmp_eq_f f306_297 hc18 ?_
    refine e_iconst (v := 0) f306_300 (by decide) ?_
    have hp := Option.some.inj hp
    subst hp
    exact e_ireturn f306_301 (by decide)
set_option maxRecDepth 100000 in
set_option maxHeartbeats 4000000 in
theorem p306_lb2_ok (d : Nat) (F : Nat) (K18 : HS → Int32 → Option (Int32 × HS)) (hK18 : ∀ (h : HS) (w : WF h) (u3 : Int32) (r : Int32 × HS), K18 h u3 = some r → ex (d + 66) 306 (18, [some (.ref (1)), some (.ref (32)), some (.ref (86)), some (.int (u3))], [], h) = some (some (.int (r.1)), r.2)) (h : HS) (w : WF h) (v3 : Int32) (r : Int32 × HS) (hp : lb2 F K18 h v3 = some r) : ex (d + 66) 306 (302, [some (.ref (1)), some (.ref (32)), some (.ref (86)), some (.int (v3))], [], h) = some (some (.int (r.1)), r.2) := by
  unfold lb2 at hp
  refine e_aload_n f306_302 rfl ?_
  refine e_aload_n f306_303 rfl ?_
  refine e_iload_n f306_304 rfl ?_
  refine e_iconst (v := 1) f306_305 (by decide) ?_
  refine e_iadd f306_306 ?_
  by_cases hg20 : ((v3) + (1)) < (0 : Int32) ∨ hN (h) (1) ≤ ((v3) + (1)).toNatClampNeg
  · rw [if_pos hg20] at hp; cases hp
  rw [if_neg hg20] at hp
  refine e_iaload f306_307 (Or.inr (WF.x w 1 (by decide))) rfl hg20 ?_
  refine e_aload_n f306_308 rfl ?_
  refine e_iload_n f306_309 rfl ?_
  refine e_iconst (v := 2) f306_310 (by decide) ?_
  refine e_iadd f306_311 ?_
  by_cases hg21 : ((v3) + (2)) < (0 : Int32) ∨ hN (h) (1) ≤ ((v3) + (2)).toNatClampNeg
  · rw [if_pos hg21] at hp; cases hp
  rw [if_neg hg21] at hp
  refine e_iaload f306_312 (Or.inr (WF.x w 1 (by decide))) rfl hg21 ?_
  refine e_aload_n f306_313 rfl ?_
  refine e_iload_n f306_314 rfl ?_
  refine e_iconst (v := 3) f306_315 (by decide) ?_
  refine e_iadd f306_316 ?_
  by_cases hg22 : ((v3) + (3)) < (0 : Int32) ∨ hN (h) (1) ≤ ((v3) + (3)).toNatClampNeg
  · rw [if_pos hg22] at hp; cases hp
  rw [if_neg hg22] at hp
  refine e_iaload f306_317 (Or.inr (WF.x w 1 (by decide))) rfl hg22 ?_
  refine e_i2l f306_318 ?_
  refine e_bipush (v := 32) f306_319 (by decide) ?_
  refine e_lshl f306_321 ?_
  refine e_aload_n f306_322 rfl ?_
  refine e_iload_n f306_323 rfl ?_
  refine e_iconst (v := 4) f306_324 (by decide) ?_
  refine e_iadd f306_325 ?_
  by_cases hg23 : ((v3) + (4)) < (0 : Int32) ∨ hN (h) (1) ≤ ((v3) + (4)).toNatClampNeg
  · rw [if_pos hg23] at hp; cases hp
  rw [if_neg hg23] at hp
  refine e_iaload f306_326 (Or.inr (WF.x w 1 (by decide))) rfl hg23 ?_
  refine e_i2l f306_327 ?_
  refine e_ldc2 (v := 4294967295) f306_328 (by decide) ?_
  refine e_land f306_331 ?_
  refine e_lor f306_332 ?_
  obtain ⟨r24, hr25, hp⟩ := bind_some hp
  try dsimp only at hp
  refine e_callV (st := []) (o := 32) (as := [.int (hI (h) (1) ((v3) + (1)).toNatClampNeg), .int (hI (h) (1) ((v3) + (2)).toNatClampNeg), .long ((((hI (h) (1) ((v3) + (3)).toNatClampNeg).toInt64) <<< ((32 : Int32).toInt64 &&& 63)) ||| (((hI (h) (1) ((v3) + (4)).toNatClampNeg).toInt64) &&& ((4294967295 : Int64))))]) f306_333 (by decide) rfl rfl (Nat.le_of_ble_eq_true rfl) (WF.t w 32 (by decide)) (Nat.le_of_ble_eq_true rfl) (p116_ok (d + 62) (h) w (hI (h) (1) ((v3) + (1)).toNatClampNeg) (hI (h) (1) ((v3) + (2)).toNatClampNeg) ((((hI (h) (1) ((v3) + (3)).toNatClampNeg).toInt64) <<< ((32 : Int32).toInt64 &&& 63)) ||| (((hI (h) (1) ((v3) + (4)).toNatClampNeg).toInt64) &&& ((4294967295 : Int64)))) r24 hr25) ?_
  show ex _ 306 (336, [some (.ref (1)), some (.ref (32)), some (.ref (86)), some (.int (v3))], [.int (r24.1)], r24.2) = _
  refine e_aload_n f306_336 rfl ?_
  refine e_aload_n f306_337 rfl ?_
  refine e_iload_n f306_338 rfl ?_
  refine e_iconst (v := 1) f306_339 (by decide) ?_
  refine e_iadd f306_340 ?_
  by_cases hg26 : ((v3) + (1)) < (0 : Int32) ∨ hN (r24.2) (1) ≤ ((v3) + (1)).toNatClampNeg
  · rw [if_pos hg26] at hp; cases hp
  rw [if_neg hg26] at hp
  refine e_iaload f306_341 (Or.inr (WF.x (p116_w (h) w (hI (h) (1) ((v3) + (1)).toNatClampNeg) (hI (h) (1) ((v3) + (2)).toNatClampNeg) ((((hI (h) (1) ((v3) + (3)).toNatClampNeg).toInt64) <<< ((32 : Int32).toInt64 &&& 63)) ||| (((hI (h) (1) ((v3) + (4)).toNatClampNeg).toInt64) &&& ((4294967295 : Int64))))  r24 hr25) 1 (by decide))) rfl hg26 ?_
  refine e_aload_n f306_342 rfl ?_
  refine e_iload_n f306_343 rfl ?_
  refine e_iconst (v := 2) f306_344 (by decide) ?_
  refine e_iadd f306_345 ?_
  by_cases hg27 : ((v3) + (2)) < (0 : Int32) ∨ hN (r24.2) (1) ≤ ((v3) + (2)).toNatClampNeg
  · rw [if_pos hg27] at hp; cases hp
  rw [if_neg hg27] at hp
  refine e_iaload f306_346 (Or.inr (WF.x (p116_w (h) w (hI (h) (1) ((v3) + (1)).toNatClampNeg) (hI (h) (1) ((v3) + (2)).toNatClampNeg) ((((hI (h) (1) ((v3) + (3)).toNatClampNeg).toInt64) <<< ((32 : Int32).toInt64 &&& 63)) ||| (((hI (h) (1) ((v3) + (4)).toNatClampNeg).toInt64) &&& ((4294967295 : Int64))))  r24 hr25) 1 (by decide))) rfl hg27 ?_
  refine e_aload_n f306_347 rfl ?_
  refine e_iload_n f306_348 rfl ?_
  refine e_iconst (v := 3) f306_349 (by decide) ?_
  refine e_iadd f306_350 ?_
  by_cases hg28 : ((v3) + (3)) < (0 : Int32) ∨ hN (r24.2) (1) ≤ ((v3) + (3)).toNatClampNeg
  · rw [if_pos hg28] at hp; cases hp
  rw [if_neg hg28] at hp
  refine e_iaload f306_351 (Or.inr (WF.x (p116_w (h) w (hI (h) (1) ((v3) + (1)).toNatClampNeg) (hI (h) (1) ((v3) + (2)).toNatClampNeg) ((((hI (h) (1) ((v3) + (3)).toNatClampNeg).toInt64) <<< ((32 : Int32).toInt64 &&& 63)) ||| (((hI (h) (1) ((v3) + (4)).toNatClampNeg).toInt64) &&& ((4294967295 : Int64))))  r24 hr25) 1 (by decide))) rfl hg28 ?_
  refine e_i2l f306_352 ?_
  refine e_bipush (v := 32) f306_353 (by decide) ?_
  refine e_lshl f306_355 ?_
  refine e_aload_n f306_356 rfl ?_
  refine e_iload_n f306_357 rfl ?_
  refine e_iconst (v := 4) f306_358 (by decide) ?_
  refine e_iadd f306_359 ?_
  by_cases hg29 : ((v3) + (4)) < (0 : Int32) ∨ hN (r24.2) (1) ≤ ((v3) + (4)).toNatClampNeg
  · rw [if_pos hg29] at hp; cases hp
  rw [if_neg hg29] at hp
  refine e_iaload f306_360 (Or.inr (WF.x (p116_w (h) w (hI (h) (1) ((v3) + (1)).toNatClampNeg) (hI (h) (1) ((v3) + (2)).toNatClampNeg) ((((hI (h) (1) ((v3) + (3)).toNatClampNeg).toInt64) <<< ((32 : Int32).toInt64 &&& 63)) ||| (((hI (h) (1) ((v3) + (4)).toNatClampNeg).toInt64) &&& ((4294967295 : Int64))))  r24 hr25) 1 (by decide))) rfl hg29 ?_
  refine e_i2l f306_361 ?_
  refine e_ldc2 (v := 4294967295) f306_362 (by decide) ?_
  refine e_land f306_365 ?_
  refine e_lor f306_366 ?_
  obtain ⟨r30, hr31, hp⟩ := bind_some hp
  try dsimp only at hp
  refine e_callV (st := [.int (r24.1)]) (o := 86) (as := [.int (hI (r24.2) (1) ((v3) + (1)).toNatClampNeg), .int (hI (r24.2) (1) ((v3) + (2)).toNatClampNeg), .long ((((hI (r24.2) (1) ((v3) + (3)).toNatClampNeg).toInt64) <<< ((32 : Int32).toInt64 &&& 63)) ||| (((hI (r24.2) (1) ((v3) + (4)).toNatClampNeg).toInt64) &&& ((4294967295 : Int64))))]) f306_367 (by decide) rfl rfl (Nat.le_of_ble_eq_true rfl) (WF.t (p116_w (h) w (hI (h) (1) ((v3) + (1)).toNatClampNeg) (hI (h) (1) ((v3) + (2)).toNatClampNeg) ((((hI (h) (1) ((v3) + (3)).toNatClampNeg).toInt64) <<< ((32 : Int32).toInt64 &&& 63)) ||| (((hI (h) (1) ((v3) + (4)).toNatClampNeg).toInt64) &&& ((4294967295 : Int64))))  r24 hr25) 86 (by decide)) (Nat.le_of_ble_eq_true rfl) (p192_ok (d + 64) F (r24.2) (p116_w (h) w (hI (h) (1) ((v3) + (1)).toNatClampNeg) (hI (h) (1) ((v3) + (2)).toNatClampNeg) ((((hI (h) (1) ((v3) + (3)).toNatClampNeg).toInt64) <<< ((32 : Int32).toInt64 &&& 63)) ||| (((hI (h) (1) ((v3) + (4)).toNatClampNeg).toInt64) &&& ((4294967295 : Int64))))  r24 hr25) (hI (r24.2) (1) ((v3) + (1)).toNatClampNeg) (hI (r24.2) (1) ((v3) + (2)).toNatClampNeg) ((((hI (r24.2) (1) ((v3) + (3)).toNatClampNeg).toInt64) <<< ((32 : Int32).toInt64 &&& 63)) ||| (((hI (r24.2) (1) ((v3) + (4)).toNatClampNeg).toInt64) &&& ((4294967295 : Int64)))) r30 hr31) ?_
  show ex _ 306 (370, [some (.ref (1)), some (.ref (32)), some (.ref (86)), some (.int (v3))], [.int (r30.1), .int (r24.1)], r30.2) = _
  by_cases hc32 : (r24.1) = ((r30.1) : Int32)
  · rw [if_pos hc32] at hp
    refine e_icmp_eq_t f306_370 hc32 ?_
    refine ex_weak (ls := [some (.ref (1)), some (.ref (32)), some (.ref (86)), some (.int (v3))]) (le2_ok ⟨Or.inr rfl, Or.inr rfl, Or.inr rfl, Or.inr rfl, trivial⟩) ?_
    exact p306_j2120_ok d F (K18) (hK18) (r30.2) ((p192_w F (r24.2) (p116_w (h) w (hI (h) (1) ((v3) + (1)).toNatClampNeg) (hI (h) (1) ((v3) + (2)).toNatClampNeg) ((((hI (h) (1) ((v3) + (3)).toNatClampNeg).toInt64) <<< ((32 : Int32).toInt64 &&& 63)) ||| (((hI (h) (1) ((v3) + (4)).toNatClampNeg).toInt64) &&& ((4294967295 : Int64))))  r24 hr25) (hI (r24.2) (1) ((v3) + (1)).toNatClampNeg) (hI (r24.2) (1) ((v3) + (2)).toNatClampNeg) ((((hI (r24.2) (1) ((v3) + (3)).toNatClampNeg).toInt64) <<< ((32 : Int32).toInt64 &&& 63)) ||| (((hI (r24.2) (1) ((v3) + (4)).toNatClampNeg).toInt64) &&& ((4294967295 : Int64))))  r30 hr31)) (v3) _ hp
  · rw [if_neg hc32] at hp
    refine e_icmp_eq_f f306_370 hc32 ?_
    refine e_iconst (v := 0) f306_373 (by decide) ?_
    have hp := Option.some.inj hp
    subst hp
    exact e_ireturn f306_374 (by decide)
set_option maxRecDepth 100000 in
set_option maxHeartbeats 4000000 in
theorem p306_lb3_ok (d : Nat) (F : Nat) (K18 : HS → Int32 → Option (Int32 × HS)) (hK18 : ∀ (h : HS) (w : WF h) (u3 : Int32) (r : Int32 × HS), K18 h u3 = some r → ex (d + 66) 306 (18, [some (.ref (1)), some (.ref (32)), some (.ref (86)), some (.int (u3))], [], h) = some (some (.int (r.1)), r.2)) (h : HS) (w : WF h) (v3 : Int32) (r : Int32 × HS) (hp : lb3 F K18 h v3 = some r) : ex (d + 66) 306 (375, [some (.ref (1)), some (.ref (32)), some (.ref (86)), some (.int (v3))], [], h) = some (some (.int (r.1)), r.2) := by
  unfold lb3 at hp
  refine e_aload_n f306_375 rfl ?_
  refine e_aload_n f306_376 rfl ?_
  refine e_iload_n f306_377 rfl ?_
  refine e_iconst (v := 1) f306_378 (by decide) ?_
  refine e_iadd f306_379 ?_
  by_cases hg34 : ((v3) + (1)) < (0 : Int32) ∨ hN (h) (1) ≤ ((v3) + (1)).toNatClampNeg
  · rw [if_pos hg34] at hp; cases hp
  rw [if_neg hg34] at hp
  refine e_iaload f306_380 (Or.inr (WF.x w 1 (by decide))) rfl hg34 ?_
  refine e_aload_n f306_381 rfl ?_
  refine e_iload_n f306_382 rfl ?_
  refine e_iconst (v := 2) f306_383 (by decide) ?_
  refine e_iadd f306_384 ?_
  by_cases hg35 : ((v3) + (2)) < (0 : Int32) ∨ hN (h) (1) ≤ ((v3) + (2)).toNatClampNeg
  · rw [if_pos hg35] at hp; cases hp
  rw [if_neg hg35] at hp
  refine e_iaload f306_385 (Or.inr (WF.x w 1 (by decide))) rfl hg35 ?_
  obtain ⟨r36, hr37, hp⟩ := bind_some hp
  try dsimp only at hp
  refine e_callV (st := []) (o := 32) (as := [.int (hI (h) (1) ((v3) + (1)).toNatClampNeg), .int (hI (h) (1) ((v3) + (2)).toNatClampNeg)]) f306_386 (by decide) rfl rfl (Nat.le_of_ble_eq_true rfl) (WF.t w 32 (by decide)) (Nat.le_of_ble_eq_true rfl) (p117_ok (d + 63) (h) w (hI (h) (1) ((v3) + (1)).toNatClampNeg) (hI (h) (1) ((v3) + (2)).toNatClampNeg) r36 hr37) ?_
  show ex _ 306 (389, [some (.ref (1)), some (.ref (32)), some (.ref (86)), some (.int (v3))], [.int (r36)], h) = _
  refine e_aload_n f306_389 rfl ?_
  refine e_aload_n f306_390 rfl ?_
  refine e_iload_n f306_391 rfl ?_
  refine e_iconst (v := 1) f306_392 (by decide) ?_
  refine e_iadd f306_393 ?_
  by_cases hg38 : ((v3) + (1)) < (0 : Int32) ∨ hN (h) (1) ≤ ((v3) + (1)).toNatClampNeg
  · rw [if_pos hg38] at hp; cases hp
  rw [if_neg hg38] at hp
  refine e_iaload f306_394 (Or.inr (WF.x w 1 (by decide))) rfl hg38 ?_
  refine e_aload_n f306_395 rfl ?_
  refine e_iload_n f306_396 rfl ?_
  refine e_iconst (v := 2) f306_397 (by decide) ?_
  refine e_iadd f306_398 ?_
  by_cases hg39 : ((v3) + (2)) < (0 : Int32) ∨ hN (h) (1) ≤ ((v3) + (2)).toNatClampNeg
  · rw [if_pos hg39] at hp; cases hp
  rw [if_neg hg39] at hp
  refine e_iaload f306_399 (Or.inr (WF.x w 1 (by decide))) rfl hg39 ?_
  obtain ⟨r40, hr41, hp⟩ := bind_some hp
  try dsimp only at hp
  refine e_callV (st := [.int (r36)]) (o := 86) (as := [.int (hI (h) (1) ((v3) + (1)).toNatClampNeg), .int (hI (h) (1) ((v3) + (2)).toNatClampNeg)]) f306_400 (by decide) rfl rfl (Nat.le_of_ble_eq_true rfl) (WF.t w 86 (by decide)) (Nat.le_of_ble_eq_true rfl) (p194_ok (d + 63) (h) w (hI (h) (1) ((v3) + (1)).toNatClampNeg) (hI (h) (1) ((v3) + (2)).toNatClampNeg) r40 hr41) ?_
  show ex _ 306 (403, [some (.ref (1)), some (.ref (32)), some (.ref (86)), some (.int (v3))], [.int (r40), .int (r36)], h) = _
  by_cases hc42 : (r36) = ((r40) : Int32)
  · rw [if_pos hc42] at hp
    refine e_icmp_eq_t f306_403 hc42 ?_
    refine ex_weak (ls := [some (.ref (1)), some (.ref (32)), some (.ref (86)), some (.int (v3))]) (le2_ok ⟨Or.inr rfl, Or.inr rfl, Or.inr rfl, Or.inr rfl, trivial⟩) ?_
    exact p306_j2120_ok d F (K18) (hK18) (h) (w) (v3) _ hp
  · rw [if_neg hc42] at hp
    refine e_icmp_eq_f f306_403 hc42 ?_
    refine e_iconst (v := 0) f306_406 (by decide) ?_
    have hp := Option.some.inj hp
    subst hp
    exact e_ireturn f306_407 (by decide)
set_option maxRecDepth 100000 in
set_option maxHeartbeats 4000000 in
theorem p306_lb4_ok (d : Nat) (F : Nat) (K18 : HS → Int32 → Option (Int32 × HS)) (hK18 : ∀ (h : HS) (w : WF h) (u3 : Int32) (r : Int32 × HS), K18 h u3 = some r → ex (d + 66) 306 (18, [some (.ref (1)), some (.ref (32)), some (.ref (86)), some (.int (u3))], [], h) = some (some (.int (r.1)), r.2)) (h : HS) (w : WF h) (v3 : Int32) (r : Int32 × HS) (hp : lb4 F K18 h v3 = some r) : ex (d + 66) 306 (408, [some (.ref (1)), some (.ref (32)), some (.ref (86)), some (.int (v3))], [], h) = some (some (.int (r.1)), r.2) := by
  unfold lb4 at hp
  refine e_aload_n f306_408 rfl ?_
  refine e_aload_n f306_409 rfl ?_
  refine e_iload_n f306_410 rfl ?_
  refine e_iconst (v := 1) f306_411 (by decide) ?_
  refine e_iadd f306_412 ?_
  by_cases hg44 : ((v3) + (1)) < (0 : Int32) ∨ hN (h) (1) ≤ ((v3) + (1)).toNatClampNeg
  · rw [if_pos hg44] at hp; cases hp
  rw [if_neg hg44] at hp
  refine e_iaload f306_413 (Or.inr (WF.x w 1 (by decide))) rfl hg44 ?_
  refine e_aload_n f306_414 rfl ?_
  refine e_iload_n f306_415 rfl ?_
  refine e_iconst (v := 2) f306_416 (by decide) ?_
  refine e_iadd f306_417 ?_
  by_cases hg45 : ((v3) + (2)) < (0 : Int32) ∨ hN (h) (1) ≤ ((v3) + (2)).toNatClampNeg
  · rw [if_pos hg45] at hp; cases hp
  rw [if_neg hg45] at hp
  refine e_iaload f306_418 (Or.inr (WF.x w 1 (by decide))) rfl hg45 ?_
  refine e_aload_n f306_419 rfl ?_
  refine e_iload_n f306_420 rfl ?_
  refine e_iconst (v := 3) f306_421 (by decide) ?_
  refine e_iadd f306_422 ?_
  by_cases hg46 : ((v3) + (3)) < (0 : Int32) ∨ hN (h) (1) ≤ ((v3) + (3)).toNatClampNeg
  · rw [if_pos hg46] at hp; cases hp
  rw [if_neg hg46] at hp
  refine e_iaload f306_423 (Or.inr (WF.x w 1 (by decide))) rfl hg46 ?_
  obtain ⟨r47, hr48, hp⟩ := bind_some hp
  try dsimp only at hp
  refine e_callV (st := []) (o := 32) (as := [.int (hI (h) (1) ((v3) + (1)).toNatClampNeg), .int (hI (h) (1) ((v3) + (2)).toNatClampNeg), .int (hI (h) (1) ((v3) + (3)).toNatClampNeg)]) f306_424 (by decide) rfl rfl (Nat.le_of_ble_eq_true rfl) (WF.t w 32 (by decide)) (Nat.le_of_ble_eq_true rfl) (p118_ok (d + 63) (h) w (hI (h) (1) ((v3) + (1)).toNatClampNeg) (hI (h) (1) ((v3) + (2)).toNatClampNeg) (hI (h) (1) ((v3) + (3)).toNatClampNeg) r47 hr48) ?_
  show ex _ 306 (427, [some (.ref (1)), some (.ref (32)), some (.ref (86)), some (.int (v3))], [.int (r47)], h) = _
  refine e_aload_n f306_427 rfl ?_
  refine e_aload_n f306_428 rfl ?_
  refine e_iload_n f306_429 rfl ?_
  refine e_iconst (v := 1) f306_430 (by decide) ?_
  refine e_iadd f306_431 ?_
  by_cases hg49 : ((v3) + (1)) < (0 : Int32) ∨ hN (h) (1) ≤ ((v3) + (1)).toNatClampNeg
  · rw [if_pos hg49] at hp; cases hp
  rw [if_neg hg49] at hp
  refine e_iaload f306_432 (Or.inr (WF.x w 1 (by decide))) rfl hg49 ?_
  refine e_aload_n f306_433 rfl ?_
  refine e_iload_n f306_434 rfl ?_
  refine e_iconst (v := 2) f306_435 (by decide) ?_
  refine e_iadd f306_436 ?_
  by_cases hg50 : ((v3) + (2)) < (0 : Int32) ∨ hN (h) (1) ≤ ((v3) + (2)).toNatClampNeg
  · rw [if_pos hg50] at hp; cases hp
  rw [if_neg hg50] at hp
  refine e_iaload f306_437 (Or.inr (WF.x w 1 (by decide))) rfl hg50 ?_
  refine e_aload_n f306_438 rfl ?_
  refine e_iload_n f306_439 rfl ?_
  refine e_iconst (v := 3) f306_440 (by decide) ?_
  refine e_iadd f306_441 ?_
  by_cases hg51 : ((v3) + (3)) < (0 : Int32) ∨ hN (h) (1) ≤ ((v3) + (3)).toNatClampNeg
  · rw [if_pos hg51] at hp; cases hp
  rw [if_neg hg51] at hp
  refine e_iaload f306_442 (Or.inr (WF.x w 1 (by decide))) rfl hg51 ?_
  obtain ⟨r52, hr53, hp⟩ := bind_some hp
  try dsimp only at hp
  refine e_callV (st := [.int (r47)]) (o := 86) (as := [.int (hI (h) (1) ((v3) + (1)).toNatClampNeg), .int (hI (h) (1) ((v3) + (2)).toNatClampNeg), .int (hI (h) (1) ((v3) + (3)).toNatClampNeg)]) f306_443 (by decide) rfl rfl (Nat.le_of_ble_eq_true rfl) (WF.t w 86 (by decide)) (Nat.le_of_ble_eq_true rfl) (p196_ok (d + 63) (h) w (hI (h) (1) ((v3) + (1)).toNatClampNeg) (hI (h) (1) ((v3) + (2)).toNatClampNeg) (hI (h) (1) ((v3) + (3)).toNatClampNeg) r52 hr53) ?_
  show ex _ 306 (446, [some (.ref (1)), some (.ref (32)), some (.ref (86)), some (.int (v3))], [.int (r52), .int (r47)], h) = _
  by_cases hc54 : (r47) = ((r52) : Int32)
  · rw [if_pos hc54] at hp
    refine e_icmp_eq_t f306_446 hc54 ?_
    refine ex_weak (ls := [some (.ref (1)), some (.ref (32)), some (.ref (86)), some (.int (v3))]) (le2_ok ⟨Or.inr rfl, Or.inr rfl, Or.inr rfl, Or.inr rfl, trivial⟩) ?_
    exact p306_j2120_ok d F (K18) (hK18) (h) (w) (v3) _ hp
  · rw [if_neg hc54] at hp
    refine e_icmp_eq_f f306_446 hc54 ?_
    refine e_iconst (v := 0) f306_449 (by decide) ?_
    have hp := Option.some.inj hp
    subst hp
    exact e_ireturn f306_450 (by decide)
set_option maxRecDepth 100000 in
set_option maxHeartbeats 4000000 in
theorem p306_lb5_ok (d : Nat) (F : Nat) (K18 : HS → Int32 → Option (Int32 × HS)) (hK18 : ∀ (h : HS) (w : WF h) (u3 : Int32) (r : Int32 × HS), K18 h u3 = some r → ex (d + 66) 306 (18, [some (.ref (1)), some (.ref (32)), some (.ref (86)), some (.int (u3))], [], h) = some (some (.int (r.1)), r.2)) (h : HS) (w : WF h) (v3 : Int32) (r : Int32 × HS) (hp : lb5 F K18 h v3 = some r) : ex (d + 66) 306 (451, [some (.ref (1)), some (.ref (32)), some (.ref (86)), some (.int (v3))], [], h) = some (some (.int (r.1)), r.2) := by
  unfold lb5 at hp
  refine e_aload_n f306_451 rfl ?_
  refine e_aload_n f306_452 rfl ?_
  refine e_iload_n f306_453 rfl ?_
  refine e_iconst (v := 1) f306_454 (by decide) ?_
  refine e_iadd f306_455 ?_
  by_cases hg56 : ((v3) + (1)) < (0 : Int32) ∨ hN (h) (1) ≤ ((v3) + (1)).toNatClampNeg
  · rw [if_pos hg56] at hp; cases hp
  rw [if_neg hg56] at hp
  refine e_iaload f306_456 (Or.inr (WF.x w 1 (by decide))) rfl hg56 ?_
  refine e_aload_n f306_457 rfl ?_
  refine e_iload_n f306_458 rfl ?_
  refine e_iconst (v := 2) f306_459 (by decide) ?_
  refine e_iadd f306_460 ?_
  by_cases hg57 : ((v3) + (2)) < (0 : Int32) ∨ hN (h) (1) ≤ ((v3) + (2)).toNatClampNeg
  · rw [if_pos hg57] at hp; cases hp
  rw [if_neg hg57] at hp
  refine e_iaload f306_461 (Or.inr (WF.x w 1 (by decide))) rfl hg57 ?_
  refine e_aload_n f306_462 rfl ?_
  refine e_iload_n f306_463 rfl ?_
  refine e_iconst (v := 3) f306_464 (by decide) ?_
  refine e_iadd f306_465 ?_
  by_cases hg58 : ((v3) + (3)) < (0 : Int32) ∨ hN (h) (1) ≤ ((v3) + (3)).toNatClampNeg
  · rw [if_pos hg58] at hp; cases hp
  rw [if_neg hg58] at hp
  refine e_iaload f306_466 (Or.inr (WF.x w 1 (by decide))) rfl hg58 ?_
  obtain ⟨r59, hr60, hp⟩ := bind_some hp
  try dsimp only at hp
  refine e_callV (st := []) (o := 32) (as := [.int (hI (h) (1) ((v3) + (1)).toNatClampNeg), .int (hI (h) (1) ((v3) + (2)).toNatClampNeg), .int (hI (h) (1) ((v3) + (3)).toNatClampNeg)]) f306_467 (by decide) rfl rfl (Nat.le_of_ble_eq_true rfl) (WF.t w 32 (by decide)) (Nat.le_of_ble_eq_true rfl) (p119_ok (d + 31) F (h) w (hI (h) (1) ((v3) + (1)).toNatClampNeg) (hI (h) (1) ((v3) + (2)).toNatClampNeg) (hI (h) (1) ((v3) + (3)).toNatClampNeg) r59 hr60) ?_
  show ex _ 306 (470, [some (.ref (1)), some (.ref (32)), some (.ref (86)), some (.int (v3))], [.int (r59.1)], r59.2) = _
  refine e_aload_n f306_470 rfl ?_
  refine e_aload_n f306_471 rfl ?_
  refine e_iload_n f306_472 rfl ?_
  refine e_iconst (v := 1) f306_473 (by decide) ?_
  refine e_iadd f306_474 ?_
  by_cases hg61 : ((v3) + (1)) < (0 : Int32) ∨ hN (r59.2) (1) ≤ ((v3) + (1)).toNatClampNeg
  · rw [if_pos hg61] at hp; cases hp
  rw [if_neg hg61] at hp
  refine e_iaload f306_475 (Or.inr (WF.x (p119_w F (h) w (hI (h) (1) ((v3) + (1)).toNatClampNeg) (hI (h) (1) ((v3) + (2)).toNatClampNeg) (hI (h) (1) ((v3) + (3)).toNatClampNeg)  r59 hr60) 1 (by decide))) rfl hg61 ?_
  refine e_aload_n f306_476 rfl ?_
  refine e_iload_n f306_477 rfl ?_
  refine e_iconst (v := 2) f306_478 (by decide) ?_
  refine e_iadd f306_479 ?_
  by_cases hg62 : ((v3) + (2)) < (0 : Int32) ∨ hN (r59.2) (1) ≤ ((v3) + (2)).toNatClampNeg
  · rw [if_pos hg62] at hp; cases hp
  rw [if_neg hg62] at hp
  refine e_iaload f306_480 (Or.inr (WF.x (p119_w F (h) w (hI (h) (1) ((v3) + (1)).toNatClampNeg) (hI (h) (1) ((v3) + (2)).toNatClampNeg) (hI (h) (1) ((v3) + (3)).toNatClampNeg)  r59 hr60) 1 (by decide))) rfl hg62 ?_
  refine e_aload_n f306_481 rfl ?_
  refine e_iload_n f306_482 rfl ?_
  refine e_iconst (v := 3) f306_483 (by decide) ?_
  refine e_iadd f306_484 ?_
  by_cases hg63 : ((v3) + (3)) < (0 : Int32) ∨ hN (r59.2) (1) ≤ ((v3) + (3)).toNatClampNeg
  · rw [if_pos hg63] at hp; cases hp
  rw [if_neg hg63] at hp
  refine e_iaload f306_485 (Or.inr (WF.x (p119_w F (h) w (hI (h) (1) ((v3) + (1)).toNatClampNeg) (hI (h) (1) ((v3) + (2)).toNatClampNeg) (hI (h) (1) ((v3) + (3)).toNatClampNeg)  r59 hr60) 1 (by decide))) rfl hg63 ?_
  obtain ⟨r64, hr65, hp⟩ := bind_some hp
  try dsimp only at hp
  refine e_callV (st := [.int (r59.1)]) (o := 86) (as := [.int (hI (r59.2) (1) ((v3) + (1)).toNatClampNeg), .int (hI (r59.2) (1) ((v3) + (2)).toNatClampNeg), .int (hI (r59.2) (1) ((v3) + (3)).toNatClampNeg)]) f306_486 (by decide) rfl rfl (Nat.le_of_ble_eq_true rfl) (WF.t (p119_w F (h) w (hI (h) (1) ((v3) + (1)).toNatClampNeg) (hI (h) (1) ((v3) + (2)).toNatClampNeg) (hI (h) (1) ((v3) + (3)).toNatClampNeg)  r59 hr60) 86 (by decide)) (Nat.le_of_ble_eq_true rfl) (p201_ok (d + 63) F (r59.2) (p119_w F (h) w (hI (h) (1) ((v3) + (1)).toNatClampNeg) (hI (h) (1) ((v3) + (2)).toNatClampNeg) (hI (h) (1) ((v3) + (3)).toNatClampNeg)  r59 hr60) (hI (r59.2) (1) ((v3) + (1)).toNatClampNeg) (hI (r59.2) (1) ((v3) + (2)).toNatClampNeg) (hI (r59.2) (1) ((v3) + (3)).toNatClampNeg) r64 hr65) ?_
  show ex _ 306 (489, [some (.ref (1)), some (.ref (32)), some (.ref (86)), some (.int (v3))], [.int (r64.1), .int (r59.1)], r64.2) = _
  by_cases hc66 : (r59.1) = ((r64.1) : Int32)
  · rw [if_pos hc66] at hp
    refine e_icmp_eq_t f306_489 hc66 ?_
    refine ex_weak (ls := [some (.ref (1)), some (.ref (32)), some (.ref (86)), some (.int (v3))]) (le2_ok ⟨Or.inr rfl, Or.inr rfl, Or.inr rfl, Or.inr rfl, trivial⟩) ?_
    exact p306_j2120_ok d F (K18) (hK18) (r64.2) ((p201_w F (r59.2) (p119_w F (h) w (hI (h) (1) ((v3) + (1)).toNatClampNeg) (hI (h) (1) ((v3) + (2)).toNatClampNeg) (hI (h) (1) ((v3) + (3)).toNatClampNeg)  r59 hr60) (hI (r59.2) (1) ((v3) + (1)).toNatClampNeg) (hI (r59.2) (1) ((v3) + (2)).toNatClampNeg) (hI (r59.2) (1) ((v3) + (3)).toNatClampNeg)  r64 hr65)) (v3) _ hp
  · rw [if_neg hc66] at hp
    refine e_icmp_eq_f f306_489 hc66 ?_
    refine e_iconst (v := 0) f306_492 (by decide) ?_
    have hp := Option.some.inj hp
    subst hp
    exact e_ireturn f306_493 (by decide)
set_option maxRecDepth 100000 in
set_option maxHeartbeats 4000000 in
theorem p306_lb6_ok (d : Nat) (F : Nat) (K18 : HS → Int32 → Option (Int32 × HS)) (hK18 : ∀ (h : HS) (w : WF h) (u3 : Int32) (r : Int32 × HS), K18 h u3 = some r → ex (d + 66) 306 (18, [some (.ref (1)), some (.ref (32)), some (.ref (86)), some (.int (u3))], [], h) = some (some (.int (r.1)), r.2)) (h : HS) (w : WF h) (v3 : Int32) (r : Int32 × HS) (hp : lb6 F K18 h v3 = some r) : ex (d + 66) 306 (494, [some (.ref (1)), some (.ref (32)), some (.ref (86)), some (.int (v3))], [], h) = some (some (.int (r.1)), r.2) := by
  unfold lb6 at hp
  refine e_aload_n f306_494 rfl ?_
  refine e_aload_n f306_495 rfl ?_
  refine e_iload_n f306_496 rfl ?_
  refine e_iconst (v := 1) f306_497 (by decide) ?_
  refine e_iadd f306_498 ?_
  by_cases hg68 : ((v3) + (1)) < (0 : Int32) ∨ hN (h) (1) ≤ ((v3) + (1)).toNatClampNeg
  · rw [if_pos hg68] at hp; cases hp
  rw [if_neg hg68] at hp
  refine e_iaload f306_499 (Or.inr (WF.x w 1 (by decide))) rfl hg68 ?_
  refine e_aload_n f306_500 rfl ?_
  refine e_iload_n f306_501 rfl ?_
  refine e_iconst (v := 2) f306_502 (by decide) ?_
  refine e_iadd f306_503 ?_
  by_cases hg69 : ((v3) + (2)) < (0 : Int32) ∨ hN (h) (1) ≤ ((v3) + (2)).toNatClampNeg
  · rw [if_pos hg69] at hp; cases hp
  rw [if_neg hg69] at hp
  refine e_iaload f306_504 (Or.inr (WF.x w 1 (by decide))) rfl hg69 ?_
  obtain ⟨r70, hr71, hp⟩ := bind_some hp
  try dsimp only at hp
  refine e_callV (st := []) (o := 32) (as := [.int (hI (h) (1) ((v3) + (1)).toNatClampNeg), .int (hI (h) (1) ((v3) + (2)).toNatClampNeg)]) f306_505 (by decide) rfl rfl (Nat.le_of_ble_eq_true rfl) (WF.t w 32 (by decide)) (Nat.le_of_ble_eq_true rfl) (p120_ok (d + 62) (h) w (hI (h) (1) ((v3) + (1)).toNatClampNeg) (hI (h) (1) ((v3) + (2)).toNatClampNeg) r70 hr71) ?_
  show ex _ 306 (508, [some (.ref (1)), some (.ref (32)), some (.ref (86)), some (.int (v3))], [.int (r70)], h) = _
  refine e_aload_n f306_508 rfl ?_
  refine e_aload_n f306_509 rfl ?_
  refine e_iload_n f306_510 rfl ?_
  refine e_iconst (v := 1) f306_511 (by decide) ?_
  refine e_iadd f306_512 ?_
  by_cases hg72 : ((v3) + (1)) < (0 : Int32) ∨ hN (h) (1) ≤ ((v3) + (1)).toNatClampNeg
  · rw [if_pos hg72] at hp; cases hp
  rw [if_neg hg72] at hp
  refine e_iaload f306_513 (Or.inr (WF.x w 1 (by decide))) rfl hg72 ?_
  refine e_aload_n f306_514 rfl ?_
  refine e_iload_n f306_515 rfl ?_
  refine e_iconst (v := 2) f306_516 (by decide) ?_
  refine e_iadd f306_517 ?_
  by_cases hg73 : ((v3) + (2)) < (0 : Int32) ∨ hN (h) (1) ≤ ((v3) + (2)).toNatClampNeg
  · rw [if_pos hg73] at hp; cases hp
  rw [if_neg hg73] at hp
  refine e_iaload f306_518 (Or.inr (WF.x w 1 (by decide))) rfl hg73 ?_
  obtain ⟨r74, hr75, hp⟩ := bind_some hp
  try dsimp only at hp
  refine e_callV (st := [.int (r70)]) (o := 86) (as := [.int (hI (h) (1) ((v3) + (1)).toNatClampNeg), .int (hI (h) (1) ((v3) + (2)).toNatClampNeg)]) f306_519 (by decide) rfl rfl (Nat.le_of_ble_eq_true rfl) (WF.t w 86 (by decide)) (Nat.le_of_ble_eq_true rfl) (p202_ok (d + 64) (h) w (hI (h) (1) ((v3) + (1)).toNatClampNeg) (hI (h) (1) ((v3) + (2)).toNatClampNeg) r74 hr75) ?_
  show ex _ 306 (522, [some (.ref (1)), some (.ref (32)), some (.ref (86)), some (.int (v3))], [.int (r74), .int (r70)], h) = _
  by_cases hc76 : (r70) = ((r74) : Int32)
  · rw [if_pos hc76] at hp
    refine e_icmp_eq_t f306_522 hc76 ?_
    refine ex_weak (ls := [some (.ref (1)), some (.ref (32)), some (.ref (86)), some (.int (v3))]) (le2_ok ⟨Or.inr rfl, Or.inr rfl, Or.inr rfl, Or.inr rfl, trivial⟩) ?_
    exact p306_j2120_ok d F (K18) (hK18) (h) (w) (v3) _ hp
  · rw [if_neg hc76] at hp
    refine e_icmp_eq_f f306_522 hc76 ?_
    refine e_iconst (v := 0) f306_525 (by decide) ?_
    have hp := Option.some.inj hp
    subst hp
    exact e_ireturn f306_526 (by decide)
set_option maxRecDepth 100000 in
set_option maxHeartbeats 4000000 in
theorem p306_lb7_ok (d : Nat) (F : Nat) (K18 : HS → Int32 → Option (Int32 × HS)) (hK18 : ∀ (h : HS) (w : WF h) (u3 : Int32) (r : Int32 × HS), K18 h u3 = some r → ex (d + 66) 306 (18, [some (.ref (1)), some (.ref (32)), some (.ref (86)), some (.int (u3))], [], h) = some (some (.int (r.1)), r.2)) (h : HS) (w : WF h) (v3 : Int32) (r : Int32 × HS) (hp : lb7 F K18 h v3 = some r) : ex (d + 66) 306 (527, [some (.ref (1)), some (.ref (32)), some (.ref (86)), some (.int (v3))], [], h) = some (some (.int (r.1)), r.2) := by
  unfold lb7 at hp
  refine e_aload_n f306_527 rfl ?_
  refine e_aload_n f306_528 rfl ?_
  refine e_iload_n f306_529 rfl ?_
  refine e_iconst (v := 1) f306_530 (by decide) ?_
  refine e_iadd f306_531 ?_
  by_cases hg78 : ((v3) + (1)) < (0 : Int32) ∨ hN (h) (1) ≤ ((v3) + (1)).toNatClampNeg
  · rw [if_pos hg78] at hp; cases hp
  rw [if_neg hg78] at hp
  refine e_iaload f306_532 (Or.inr (WF.x w 1 (by decide))) rfl hg78 ?_
  refine e_aload_n f306_533 rfl ?_
  refine e_iload_n f306_534 rfl ?_
  refine e_iconst (v := 2) f306_535 (by decide) ?_
  refine e_iadd f306_536 ?_
  by_cases hg79 : ((v3) + (2)) < (0 : Int32) ∨ hN (h) (1) ≤ ((v3) + (2)).toNatClampNeg
  · rw [if_pos hg79] at hp; cases hp
  rw [if_neg hg79] at hp
  refine e_iaload f306_537 (Or.inr (WF.x w 1 (by decide))) rfl hg79 ?_
  refine e_aload_n f306_538 rfl ?_
  refine e_iload_n f306_539 rfl ?_
  refine e_iconst (v := 3) f306_540 (by decide) ?_
  refine e_iadd f306_541 ?_
  by_cases hg80 : ((v3) + (3)) < (0 : Int32) ∨ hN (h) (1) ≤ ((v3) + (3)).toNatClampNeg
  · rw [if_pos hg80] at hp; cases hp
  rw [if_neg hg80] at hp
  refine e_iaload f306_542 (Or.inr (WF.x w 1 (by decide))) rfl hg80 ?_
  refine e_i2l f306_543 ?_
  refine e_bipush (v := 32) f306_544 (by decide) ?_
  refine e_lshl f306_546 ?_
  refine e_aload_n f306_547 rfl ?_
  refine e_iload_n f306_548 rfl ?_
  refine e_iconst (v := 4) f306_549 (by decide) ?_
  refine e_iadd f306_550 ?_
  by_cases hg81 : ((v3) + (4)) < (0 : Int32) ∨ hN (h) (1) ≤ ((v3) + (4)).toNatClampNeg
  · rw [if_pos hg81] at hp; cases hp
  rw [if_neg hg81] at hp
  refine e_iaload f306_551 (Or.inr (WF.x w 1 (by decide))) rfl hg81 ?_
  refine e_i2l f306_552 ?_
  refine e_ldc2 (v := 4294967295) f306_553 (by decide) ?_
  refine e_land f306_556 ?_
  refine e_lor f306_557 ?_
  obtain ⟨r82, hr83, hp⟩ := bind_some hp
  try dsimp only at hp
  refine e_callV (st := []) (o := 32) (as := [.int (hI (h) (1) ((v3) + (1)).toNatClampNeg), .int (hI (h) (1) ((v3) + (2)).toNatClampNeg), .long ((((hI (h) (1) ((v3) + (3)).toNatClampNeg).toInt64) <<< ((32 : Int32).toInt64 &&& 63)) ||| (((hI (h) (1) ((v3) + (4)).toNatClampNeg).toInt64) &&& ((4294967295 : Int64))))]) f306_558 (by decide) rfl rfl (Nat.le_of_ble_eq_true rfl) (WF.t w 32 (by decide)) (Nat.le_of_ble_eq_true rfl) (p121_ok (d + 61) F (h) w (hI (h) (1) ((v3) + (1)).toNatClampNeg) (hI (h) (1) ((v3) + (2)).toNatClampNeg) ((((hI (h) (1) ((v3) + (3)).toNatClampNeg).toInt64) <<< ((32 : Int32).toInt64 &&& 63)) ||| (((hI (h) (1) ((v3) + (4)).toNatClampNeg).toInt64) &&& ((4294967295 : Int64)))) r82 hr83) ?_
  show ex _ 306 (561, [some (.ref (1)), some (.ref (32)), some (.ref (86)), some (.int (v3))], [.int (r82.1)], r82.2) = _
  refine e_aload_n f306_561 rfl ?_
  refine e_aload_n f306_562 rfl ?_
  refine e_iload_n f306_563 rfl ?_
  refine e_iconst (v := 1) f306_564 (by decide) ?_
  refine e_iadd f306_565 ?_
  by_cases hg84 : ((v3) + (1)) < (0 : Int32) ∨ hN (r82.2) (1) ≤ ((v3) + (1)).toNatClampNeg
  · rw [if_pos hg84] at hp; cases hp
  rw [if_neg hg84] at hp
  refine e_iaload f306_566 (Or.inr (WF.x (p121_w F (h) w (hI (h) (1) ((v3) + (1)).toNatClampNeg) (hI (h) (1) ((v3) + (2)).toNatClampNeg) ((((hI (h) (1) ((v3) + (3)).toNatClampNeg).toInt64) <<< ((32 : Int32).toInt64 &&& 63)) ||| (((hI (h) (1) ((v3) + (4)).toNatClampNeg).toInt64) &&& ((4294967295 : Int64))))  r82 hr83) 1 (by decide))) rfl hg84 ?_
  refine e_aload_n f306_567 rfl ?_
  refine e_iload_n f306_568 rfl ?_
  refine e_iconst (v := 2) f306_569 (by decide) ?_
  refine e_iadd f306_570 ?_
  by_cases hg85 : ((v3) + (2)) < (0 : Int32) ∨ hN (r82.2) (1) ≤ ((v3) + (2)).toNatClampNeg
  · rw [if_pos hg85] at hp; cases hp
  rw [if_neg hg85] at hp
  refine e_iaload f306_571 (Or.inr (WF.x (p121_w F (h) w (hI (h) (1) ((v3) + (1)).toNatClampNeg) (hI (h) (1) ((v3) + (2)).toNatClampNeg) ((((hI (h) (1) ((v3) + (3)).toNatClampNeg).toInt64) <<< ((32 : Int32).toInt64 &&& 63)) ||| (((hI (h) (1) ((v3) + (4)).toNatClampNeg).toInt64) &&& ((4294967295 : Int64))))  r82 hr83) 1 (by decide))) rfl hg85 ?_
  refine e_aload_n f306_572 rfl ?_
  refine e_iload_n f306_573 rfl ?_
  refine e_iconst (v := 3) f306_574 (by decide) ?_
  refine e_iadd f306_575 ?_
  by_cases hg86 : ((v3) + (3)) < (0 : Int32) ∨ hN (r82.2) (1) ≤ ((v3) + (3)).toNatClampNeg
  · rw [if_pos hg86] at hp; cases hp
  rw [if_neg hg86] at hp
  refine e_iaload f306_576 (Or.inr (WF.x (p121_w F (h) w (hI (h) (1) ((v3) + (1)).toNatClampNeg) (hI (h) (1) ((v3) + (2)).toNatClampNeg) ((((hI (h) (1) ((v3) + (3)).toNatClampNeg).toInt64) <<< ((32 : Int32).toInt64 &&& 63)) ||| (((hI (h) (1) ((v3) + (4)).toNatClampNeg).toInt64) &&& ((4294967295 : Int64))))  r82 hr83) 1 (by decide))) rfl hg86 ?_
  refine e_i2l f306_577 ?_
  refine e_bipush (v := 32) f306_578 (by decide) ?_
  refine e_lshl f306_580 ?_
  refine e_aload_n f306_581 rfl ?_
  refine e_iload_n f306_582 rfl ?_
  refine e_iconst (v := 4) f306_583 (by decide) ?_
  refine e_iadd f306_584 ?_
  by_cases hg87 : ((v3) + (4)) < (0 : Int32) ∨ hN (r82.2) (1) ≤ ((v3) + (4)).toNatClampNeg
  · rw [if_pos hg87] at hp; cases hp
  rw [if_neg hg87] at hp
  refine e_iaload f306_585 (Or.inr (WF.x (p121_w F (h) w (hI (h) (1) ((v3) + (1)).toNatClampNeg) (hI (h) (1) ((v3) + (2)).toNatClampNeg) ((((hI (h) (1) ((v3) + (3)).toNatClampNeg).toInt64) <<< ((32 : Int32).toInt64 &&& 63)) ||| (((hI (h) (1) ((v3) + (4)).toNatClampNeg).toInt64) &&& ((4294967295 : Int64))))  r82 hr83) 1 (by decide))) rfl hg87 ?_
  refine e_i2l f306_586 ?_
  refine e_ldc2 (v := 4294967295) f306_587 (by decide) ?_
  refine e_land f306_590 ?_
  refine e_lor f306_591 ?_
  obtain ⟨r88, hr89, hp⟩ := bind_some hp
  try dsimp only at hp
  refine e_callV (st := [.int (r82.1)]) (o := 86) (as := [.int (hI (r82.2) (1) ((v3) + (1)).toNatClampNeg), .int (hI (r82.2) (1) ((v3) + (2)).toNatClampNeg), .long ((((hI (r82.2) (1) ((v3) + (3)).toNatClampNeg).toInt64) <<< ((32 : Int32).toInt64 &&& 63)) ||| (((hI (r82.2) (1) ((v3) + (4)).toNatClampNeg).toInt64) &&& ((4294967295 : Int64))))]) f306_592 (by decide) rfl rfl (Nat.le_of_ble_eq_true rfl) (WF.t (p121_w F (h) w (hI (h) (1) ((v3) + (1)).toNatClampNeg) (hI (h) (1) ((v3) + (2)).toNatClampNeg) ((((hI (h) (1) ((v3) + (3)).toNatClampNeg).toInt64) <<< ((32 : Int32).toInt64 &&& 63)) ||| (((hI (h) (1) ((v3) + (4)).toNatClampNeg).toInt64) &&& ((4294967295 : Int64))))  r82 hr83) 86 (by decide)) (Nat.le_of_ble_eq_true rfl) (p203_ok (d + 63) F (r82.2) (p121_w F (h) w (hI (h) (1) ((v3) + (1)).toNatClampNeg) (hI (h) (1) ((v3) + (2)).toNatClampNeg) ((((hI (h) (1) ((v3) + (3)).toNatClampNeg).toInt64) <<< ((32 : Int32).toInt64 &&& 63)) ||| (((hI (h) (1) ((v3) + (4)).toNatClampNeg).toInt64) &&& ((4294967295 : Int64))))  r82 hr83) (hI (r82.2) (1) ((v3) + (1)).toNatClampNeg) (hI (r82.2) (1) ((v3) + (2)).toNatClampNeg) ((((hI (r82.2) (1) ((v3) + (3)).toNatClampNeg).toInt64) <<< ((32 : Int32).toInt64 &&& 63)) ||| (((hI (r82.2) (1) ((v3) + (4)).toNatClampNeg).toInt64) &&& ((4294967295 : Int64)))) r88 hr89) ?_
  show ex _ 306 (595, [some (.ref (1)), some (.ref (32)), some (.ref (86)), some (.int (v3))], [.int (r88.1), .int (r82.1)], r88.2) = _
  by_cases hc90 : (r82.1) = ((r88.1) : Int32)
  · rw [if_pos hc90] at hp
    refine e_icmp_eq_t f306_595 hc90 ?_
    refine ex_weak (ls := [some (.ref (1)), some (.ref (32)), some (.ref (86)), some (.int (v3))]) (le2_ok ⟨Or.inr rfl, Or.inr rfl, Or.inr rfl, Or.inr rfl, trivial⟩) ?_
    exact p306_j2120_ok d F (K18) (hK18) (r88.2) ((p203_w F (r82.2) (p121_w F (h) w (hI (h) (1) ((v3) + (1)).toNatClampNeg) (hI (h) (1) ((v3) + (2)).toNatClampNeg) ((((hI (h) (1) ((v3) + (3)).toNatClampNeg).toInt64) <<< ((32 : Int32).toInt64 &&& 63)) ||| (((hI (h) (1) ((v3) + (4)).toNatClampNeg).toInt64) &&& ((4294967295 : Int64))))  r82 hr83) (hI (r82.2) (1) ((v3) + (1)).toNatClampNeg) (hI (r82.2) (1) ((v3) + (2)).toNatClampNeg) ((((hI (r82.2) (1) ((v3) + (3)).toNatClampNeg).toInt64) <<< ((32 : Int32).toInt64 &&& 63)) ||| (((hI (r82.2) (1) ((v3) + (4)).toNatClampNeg).toInt64) &&& ((4294967295 : Int64))))  r88 hr89)) (v3) _ hp
  · rw [if_neg hc90] at hp
    refine e_icmp_eq_f f306_595 hc90 ?_
    refine e_iconst (v := 0) f306_598 (by decide) ?_
    have hp := Option.some.inj hp
    subst hp
    exact e_ireturn f306_599 (by decide)
set_option maxRecDepth 100000 in
set_option maxHeartbeats 4000000 in
theorem p306_lb8_ok (d : Nat) (F : Nat) (K18 : HS → Int32 → Option (Int32 × HS)) (hK18 : ∀ (h : HS) (w : WF h) (u3 : Int32) (r : Int32 × HS), K18 h u3 = some r → ex (d + 66) 306 (18, [some (.ref (1)), some (.ref (32)), some (.ref (86)), some (.int (u3))], [], h) = some (some (.int (r.1)), r.2)) (h : HS) (w : WF h) (v3 : Int32) (r : Int32 × HS) (hp : lb8 F K18 h v3 = some r) : ex (d + 66) 306 (600, [some (.ref (1)), some (.ref (32)), some (.ref (86)), some (.int (v3))], [], h) = some (some (.int (r.1)), r.2) := by
  unfold lb8 at hp
  refine e_aload_n f306_600 rfl ?_
  refine e_aload_n f306_601 rfl ?_
  refine e_iload_n f306_602 rfl ?_
  refine e_iconst (v := 1) f306_603 (by decide) ?_
  refine e_iadd f306_604 ?_
  by_cases hg92 : ((v3) + (1)) < (0 : Int32) ∨ hN (h) (1) ≤ ((v3) + (1)).toNatClampNeg
  · rw [if_pos hg92] at hp; cases hp
  rw [if_neg hg92] at hp
  refine e_iaload f306_605 (Or.inr (WF.x w 1 (by decide))) rfl hg92 ?_
  obtain ⟨r93, hr94, hp⟩ := bind_some hp
  try dsimp only at hp
  refine e_callV (st := []) (o := 32) (as := [.int (hI (h) (1) ((v3) + (1)).toNatClampNeg)]) f306_606 (by decide) rfl rfl (Nat.le_of_ble_eq_true rfl) (WF.t w 32 (by decide)) (Nat.le_of_ble_eq_true rfl) (p122_ok (d + 62) F (h) w (hI (h) (1) ((v3) + (1)).toNatClampNeg) r93 hr94) ?_
  show ex _ 306 (609, [some (.ref (1)), some (.ref (32)), some (.ref (86)), some (.int (v3))], [.int (r93.1)], r93.2) = _
  refine e_aload_n f306_609 rfl ?_
  refine e_aload_n f306_610 rfl ?_
  refine e_iload_n f306_611 rfl ?_
  refine e_iconst (v := 1) f306_612 (by decide) ?_
  refine e_iadd f306_613 ?_
  by_cases hg95 : ((v3) + (1)) < (0 : Int32) ∨ hN (r93.2) (1) ≤ ((v3) + (1)).toNatClampNeg
  · rw [if_pos hg95] at hp; cases hp
  rw [if_neg hg95] at hp
  refine e_iaload f306_614 (Or.inr (WF.x (p122_w F (h) w (hI (h) (1) ((v3) + (1)).toNatClampNeg)  r93 hr94) 1 (by decide))) rfl hg95 ?_
  obtain ⟨r96, hr97, hp⟩ := bind_some hp
  try dsimp only at hp
  refine e_callV (st := [.int (r93.1)]) (o := 86) (as := [.int (hI (r93.2) (1) ((v3) + (1)).toNatClampNeg)]) f306_615 (by decide) rfl rfl (Nat.le_of_ble_eq_true rfl) (WF.t (p122_w F (h) w (hI (h) (1) ((v3) + (1)).toNatClampNeg)  r93 hr94) 86 (by decide)) (Nat.le_of_ble_eq_true rfl) (p207_ok (d + 63) F (r93.2) (p122_w F (h) w (hI (h) (1) ((v3) + (1)).toNatClampNeg)  r93 hr94) (hI (r93.2) (1) ((v3) + (1)).toNatClampNeg) r96 hr97) ?_
  show ex _ 306 (618, [some (.ref (1)), some (.ref (32)), some (.ref (86)), some (.int (v3))], [.int (r96.1), .int (r93.1)], r96.2) = _
  by_cases hc98 : (r93.1) = ((r96.1) : Int32)
  · rw [if_pos hc98] at hp
    refine e_icmp_eq_t f306_618 hc98 ?_
    refine ex_weak (ls := [some (.ref (1)), some (.ref (32)), some (.ref (86)), some (.int (v3))]) (le2_ok ⟨Or.inr rfl, Or.inr rfl, Or.inr rfl, Or.inr rfl, trivial⟩) ?_
    exact p306_j2120_ok d F (K18) (hK18) (r96.2) ((p207_w F (r93.2) (p122_w F (h) w (hI (h) (1) ((v3) + (1)).toNatClampNeg)  r93 hr94) (hI (r93.2) (1) ((v3) + (1)).toNatClampNeg)  r96 hr97)) (v3) _ hp
  · rw [if_neg hc98] at hp
    refine e_icmp_eq_f f306_618 hc98 ?_
    refine e_iconst (v := 0) f306_621 (by decide) ?_
    have hp := Option.some.inj hp
    subst hp
    exact e_ireturn f306_622 (by decide)
set_option maxRecDepth 100000 in
set_option maxHeartbeats 4000000 in
theorem p306_lb9_ok (d : Nat) (F : Nat) (K18 : HS → Int32 → Option (Int32 × HS)) (hK18 : ∀ (h : HS) (w : WF h) (u3 : Int32) (r : Int32 × HS), K18 h u3 = some r → ex (d + 66) 306 (18, [some (.ref (1)), some (.ref (32)), some (.ref (86)), some (.int (u3))], [], h) = some (some (.int (r.1)), r.2)) (h : HS) (w : WF h) (v3 : Int32) (r : Int32 × HS) (hp : lb9 F K18 h v3 = some r) : ex (d + 66) 306 (623, [some (.ref (1)), some (.ref (32)), some (.ref (86)), some (.int (v3))], [], h) = some (some (.int (r.1)), r.2) := by
  unfold lb9 at hp
  refine e_aload_n f306_623 rfl ?_
  obtain ⟨r100, hr101, hp⟩ := bind_some hp
  try dsimp only at hp
  refine e_callV (st := []) (o := 32) (as := []) f306_624 (by decide) rfl rfl (Nat.le_of_ble_eq_true rfl) (WF.t w 32 (by decide)) (Nat.le_of_ble_eq_true rfl) (p123_ok (d + 63) (h) w r100 hr101) ?_
  show ex _ 306 (627, [some (.ref (1)), some (.ref (32)), some (.ref (86)), some (.int (v3))], [.int (r100.1)], r100.2) = _
  refine e_aload_n f306_627 rfl ?_
  obtain ⟨r102, hr103, hp⟩ := bind_some hp
  try dsimp only at hp
  refine e_callV (st := [.int (r100.1)]) (o := 86) (as := []) f306_628 (by decide) rfl rfl (Nat.le_of_ble_eq_true rfl) (WF.t (p123_w (h) w  r100 hr101) 86 (by decide)) (Nat.le_of_ble_eq_true rfl) (p204_ok (d + 65) (r100.2) (p123_w (h) w  r100 hr101) r102 hr103) ?_
  show ex _ 306 (631, [some (.ref (1)), some (.ref (32)), some (.ref (86)), some (.int (v3))], [.int (r102.1), .int (r100.1)], r102.2) = _
  by_cases hc104 : (r100.1) = ((r102.1) : Int32)
  · rw [if_pos hc104] at hp
    refine e_icmp_eq_t f306_631 hc104 ?_
    refine ex_weak (ls := [some (.ref (1)), some (.ref (32)), some (.ref (86)), some (.int (v3))]) (le2_ok ⟨Or.inr rfl, Or.inr rfl, Or.inr rfl, Or.inr rfl, trivial⟩) ?_
    exact p306_j2120_ok d F (K18) (hK18) (r102.2) ((p204_w (r100.2) (p123_w (h) w  r100 hr101)  r102 hr103)) (v3) _ hp
  · rw [if_neg hc104] at hp
    refine e_icmp_eq_f f306_631 hc104 ?_
    refine e_iconst (v := 0) f306_634 (by decide) ?_
    have hp := Option.some.inj hp
    subst hp
    exact e_ireturn f306_635 (by decide)
set_option maxRecDepth 100000 in
set_option maxHeartbeats 4000000 in
theorem p306_lb10_ok (d : Nat) (F : Nat) (K18 : HS → Int32 → Option (Int32 × HS)) (hK18 : ∀ (h : HS) (w : WF h) (u3 : Int32) (r : Int32 × HS), K18 h u3 = some r → ex (d + 66) 306 (18, [some (.ref (1)), some (.ref (32)), some (.ref (86)), some (.int (u3))], [], h) = some (some (.int (r.1)), r.2)) (h : HS) (w : WF h) (v3 : Int32) (r : Int32 × HS) (hp : lb10 F K18 h v3 = some r) : ex (d + 66) 306 (636, [some (.ref (1)), some (.ref (32)), some (.ref (86)), some (.int (v3))], [], h) = some (some (.int (r.1)), r.2) := by
  unfold lb10 at hp
  refine e_aload_n f306_636 rfl ?_
  refine e_aload_n f306_637 rfl ?_
  refine e_iload_n f306_638 rfl ?_
  refine e_iconst (v := 1) f306_639 (by decide) ?_
  refine e_iadd f306_640 ?_
  by_cases hg106 : ((v3) + (1)) < (0 : Int32) ∨ hN (h) (1) ≤ ((v3) + (1)).toNatClampNeg
  · rw [if_pos hg106] at hp; cases hp
  rw [if_neg hg106] at hp
  refine e_iaload f306_641 (Or.inr (WF.x w 1 (by decide))) rfl hg106 ?_
  obtain ⟨r107, hr108, hp⟩ := bind_some hp
  try dsimp only at hp
  refine e_callV (st := []) (o := 32) (as := [.int (hI (h) (1) ((v3) + (1)).toNatClampNeg)]) f306_642 (by decide) rfl rfl (Nat.le_of_ble_eq_true rfl) (WF.t w 32 (by decide)) (Nat.le_of_ble_eq_true rfl) (p124_ok (d + 62) F (h) w (hI (h) (1) ((v3) + (1)).toNatClampNeg) r107 hr108) ?_
  show ex _ 306 (645, [some (.ref (1)), some (.ref (32)), some (.ref (86)), some (.int (v3))], [.int (r107.1)], r107.2) = _
  refine e_aload_n f306_645 rfl ?_
  refine e_aload_n f306_646 rfl ?_
  refine e_iload_n f306_647 rfl ?_
  refine e_iconst (v := 1) f306_648 (by decide) ?_
  refine e_iadd f306_649 ?_
  by_cases hg109 : ((v3) + (1)) < (0 : Int32) ∨ hN (r107.2) (1) ≤ ((v3) + (1)).toNatClampNeg
  · rw [if_pos hg109] at hp; cases hp
  rw [if_neg hg109] at hp
  refine e_iaload f306_650 (Or.inr (WF.x (p124_w F (h) w (hI (h) (1) ((v3) + (1)).toNatClampNeg)  r107 hr108) 1 (by decide))) rfl hg109 ?_
  obtain ⟨r110, hr111, hp⟩ := bind_some hp
  try dsimp only at hp
  refine e_callV (st := [.int (r107.1)]) (o := 86) (as := [.int (hI (r107.2) (1) ((v3) + (1)).toNatClampNeg)]) f306_651 (by decide) rfl rfl (Nat.le_of_ble_eq_true rfl) (WF.t (p124_w F (h) w (hI (h) (1) ((v3) + (1)).toNatClampNeg)  r107 hr108) 86 (by decide)) (Nat.le_of_ble_eq_true rfl) (p208_ok (d + 62) F (r107.2) (p124_w F (h) w (hI (h) (1) ((v3) + (1)).toNatClampNeg)  r107 hr108) (hI (r107.2) (1) ((v3) + (1)).toNatClampNeg) r110 hr111) ?_
  show ex _ 306 (654, [some (.ref (1)), some (.ref (32)), some (.ref (86)), some (.int (v3))], [.int (r110.1), .int (r107.1)], r110.2) = _
  by_cases hc112 : (r107.1) = ((r110.1) : Int32)
  · rw [if_pos hc112] at hp
    refine e_icmp_eq_t f306_654 hc112 ?_
    refine ex_weak (ls := [some (.ref (1)), some (.ref (32)), some (.ref (86)), some (.int (v3))]) (le2_ok ⟨Or.inr rfl, Or.inr rfl, Or.inr rfl, Or.inr rfl, trivial⟩) ?_
    exact p306_j2120_ok d F (K18) (hK18) (r110.2) ((p208_w F (r107.2) (p124_w F (h) w (hI (h) (1) ((v3) + (1)).toNatClampNeg)  r107 hr108) (hI (r107.2) (1) ((v3) + (1)).toNatClampNeg)  r110 hr111)) (v3) _ hp
  · rw [if_neg hc112] at hp
    refine e_icmp_eq_f f306_654 hc112 ?_
    refine e_iconst (v := 0) f306_657 (by decide) ?_
    have hp := Option.some.inj hp
    subst hp
    exact e_ireturn f306_658 (by decide)
set_option maxRecDepth 100000 in
set_option maxHeartbeats 4000000 in
theorem p306_lb11_ok (d : Nat) (F : Nat) (K18 : HS → Int32 → Option (Int32 × HS)) (hK18 : ∀ (h : HS) (w : WF h) (u3 : Int32) (r : Int32 × HS), K18 h u3 = some r → ex (d + 66) 306 (18, [some (.ref (1)), some (.ref (32)), some (.ref (86)), some (.int (u3))], [], h) = some (some (.int (r.1)), r.2)) (h : HS) (w : WF h) (v3 : Int32) (r : Int32 × HS) (hp : lb11 F K18 h v3 = some r) : ex (d + 66) 306 (659, [some (.ref (1)), some (.ref (32)), some (.ref (86)), some (.int (v3))], [], h) = some (some (.int (r.1)), r.2) := by
  unfold lb11 at hp
  refine e_aload_n f306_659 rfl ?_
  refine e_aload_n f306_660 rfl ?_
  refine e_iload_n f306_661 rfl ?_
  refine e_iconst (v := 1) f306_662 (by decide) ?_
  refine e_iadd f306_663 ?_
  by_cases hg114 : ((v3) + (1)) < (0 : Int32) ∨ hN (h) (1) ≤ ((v3) + (1)).toNatClampNeg
  · rw [if_pos hg114] at hp; cases hp
  rw [if_neg hg114] at hp
  refine e_iaload f306_664 (Or.inr (WF.x w 1 (by decide))) rfl hg114 ?_
  obtain ⟨r115, hr116, hp⟩ := bind_some hp
  try dsimp only at hp
  refine e_callV (st := []) (o := 32) (as := [.int (hI (h) (1) ((v3) + (1)).toNatClampNeg)]) f306_665 (by decide) rfl rfl (Nat.le_of_ble_eq_true rfl) (WF.t w 32 (by decide)) (Nat.le_of_ble_eq_true rfl) (p125_ok (d + 62) (h) w (hI (h) (1) ((v3) + (1)).toNatClampNeg) r115 hr116) ?_
  show ex _ 306 (668, [some (.ref (1)), some (.ref (32)), some (.ref (86)), some (.int (v3))], [.int (r115.1)], r115.2) = _
  refine e_aload_n f306_668 rfl ?_
  refine e_aload_n f306_669 rfl ?_
  refine e_iload_n f306_670 rfl ?_
  refine e_iconst (v := 1) f306_671 (by decide) ?_
  refine e_iadd f306_672 ?_
  by_cases hg117 : ((v3) + (1)) < (0 : Int32) ∨ hN (r115.2) (1) ≤ ((v3) + (1)).toNatClampNeg
  · rw [if_pos hg117] at hp; cases hp
  rw [if_neg hg117] at hp
  refine e_iaload f306_673 (Or.inr (WF.x (p125_w (h) w (hI (h) (1) ((v3) + (1)).toNatClampNeg)  r115 hr116) 1 (by decide))) rfl hg117 ?_
  obtain ⟨r118, hr119, hp⟩ := bind_some hp
  try dsimp only at hp
  refine e_callV (st := [.int (r115.1)]) (o := 86) (as := [.int (hI (r115.2) (1) ((v3) + (1)).toNatClampNeg)]) f306_674 (by decide) rfl rfl (Nat.le_of_ble_eq_true rfl) (WF.t (p125_w (h) w (hI (h) (1) ((v3) + (1)).toNatClampNeg)  r115 hr116) 86 (by decide)) (Nat.le_of_ble_eq_true rfl) (p209_ok (d + 62) (r115.2) (p125_w (h) w (hI (h) (1) ((v3) + (1)).toNatClampNeg)  r115 hr116) (hI (r115.2) (1) ((v3) + (1)).toNatClampNeg) r118 hr119) ?_
  show ex _ 306 (677, [some (.ref (1)), some (.ref (32)), some (.ref (86)), some (.int (v3))], [.int (r118.1), .int (r115.1)], r118.2) = _
  by_cases hc120 : (r115.1) = ((r118.1) : Int32)
  · rw [if_pos hc120] at hp
    refine e_icmp_eq_t f306_677 hc120 ?_
    refine ex_weak (ls := [some (.ref (1)), some (.ref (32)), some (.ref (86)), some (.int (v3))]) (le2_ok ⟨Or.inr rfl, Or.inr rfl, Or.inr rfl, Or.inr rfl, trivial⟩) ?_
    exact p306_j2120_ok d F (K18) (hK18) (r118.2) ((p209_w (r115.2) (p125_w (h) w (hI (h) (1) ((v3) + (1)).toNatClampNeg)  r115 hr116) (hI (r115.2) (1) ((v3) + (1)).toNatClampNeg)  r118 hr119)) (v3) _ hp
  · rw [if_neg hc120] at hp
    refine e_icmp_eq_f f306_677 hc120 ?_
    refine e_iconst (v := 0) f306_680 (by decide) ?_
    have hp := Option.some.inj hp
    subst hp
    exact e_ireturn f306_681 (by decide)
set_option maxRecDepth 100000 in
set_option maxHeartbeats 4000000 in
theorem p306_lb12_ok (d : Nat) (F : Nat) (K18 : HS → Int32 → Option (Int32 × HS)) (hK18 : ∀ (h : HS) (w : WF h) (u3 : Int32) (r : Int32 × HS), K18 h u3 = some r → ex (d + 66) 306 (18, [some (.ref (1)), some (.ref (32)), some (.ref (86)), some (.int (u3))], [], h) = some (some (.int (r.1)), r.2)) (h : HS) (w : WF h) (v3 : Int32) (r : Int32 × HS) (hp : lb12 F K18 h v3 = some r) : ex (d + 66) 306 (682, [some (.ref (1)), some (.ref (32)), some (.ref (86)), some (.int (v3))], [], h) = some (some (.int (r.1)), r.2) := by
  unfold lb12 at hp
  refine e_aload_n f306_682 rfl ?_
  refine e_aload_n f306_683 rfl ?_
  refine e_iload_n f306_684 rfl ?_
  refine e_iconst (v := 1) f306_685 (by decide) ?_
  refine e_iadd f306_686 ?_
  by_cases hg122 : ((v3) + (1)) < (0 : Int32) ∨ hN (h) (1) ≤ ((v3) + (1)).toNatClampNeg
  · rw [if_pos hg122] at hp; cases hp
  rw [if_neg hg122] at hp
  refine e_iaload f306_687 (Or.inr (WF.x w 1 (by decide))) rfl hg122 ?_
  refine e_aload_n f306_688 rfl ?_
  refine e_iload_n f306_689 rfl ?_
  refine e_iconst (v := 2) f306_690 (by decide) ?_
  refine e_iadd f306_691 ?_
  by_cases hg123 : ((v3) + (2)) < (0 : Int32) ∨ hN (h) (1) ≤ ((v3) + (2)).toNatClampNeg
  · rw [if_pos hg123] at hp; cases hp
  rw [if_neg hg123] at hp
  refine e_iaload f306_692 (Or.inr (WF.x w 1 (by decide))) rfl hg123 ?_
  obtain ⟨r124, hr125, hp⟩ := bind_some hp
  try dsimp only at hp
  refine e_callV (st := []) (o := 32) (as := [.int (hI (h) (1) ((v3) + (1)).toNatClampNeg), .int (hI (h) (1) ((v3) + (2)).toNatClampNeg)]) f306_693 (by decide) rfl rfl (Nat.le_of_ble_eq_true rfl) (WF.t w 32 (by decide)) (Nat.le_of_ble_eq_true rfl) (p126_ok (d + 63) (h) w (hI (h) (1) ((v3) + (1)).toNatClampNeg) (hI (h) (1) ((v3) + (2)).toNatClampNeg) r124 hr125) ?_
  show ex _ 306 (696, [some (.ref (1)), some (.ref (32)), some (.ref (86)), some (.int (v3))], [.int (r124)], h) = _
  refine e_aload_n f306_696 rfl ?_
  refine e_aload_n f306_697 rfl ?_
  refine e_iload_n f306_698 rfl ?_
  refine e_iconst (v := 1) f306_699 (by decide) ?_
  refine e_iadd f306_700 ?_
  by_cases hg126 : ((v3) + (1)) < (0 : Int32) ∨ hN (h) (1) ≤ ((v3) + (1)).toNatClampNeg
  · rw [if_pos hg126] at hp; cases hp
  rw [if_neg hg126] at hp
  refine e_iaload f306_701 (Or.inr (WF.x w 1 (by decide))) rfl hg126 ?_
  refine e_aload_n f306_702 rfl ?_
  refine e_iload_n f306_703 rfl ?_
  refine e_iconst (v := 2) f306_704 (by decide) ?_
  refine e_iadd f306_705 ?_
  by_cases hg127 : ((v3) + (2)) < (0 : Int32) ∨ hN (h) (1) ≤ ((v3) + (2)).toNatClampNeg
  · rw [if_pos hg127] at hp; cases hp
  rw [if_neg hg127] at hp
  refine e_iaload f306_706 (Or.inr (WF.x w 1 (by decide))) rfl hg127 ?_
  obtain ⟨r128, hr129, hp⟩ := bind_some hp
  try dsimp only at hp
  refine e_callV (st := [.int (r124)]) (o := 86) (as := [.int (hI (h) (1) ((v3) + (1)).toNatClampNeg), .int (hI (h) (1) ((v3) + (2)).toNatClampNeg)]) f306_707 (by decide) rfl rfl (Nat.le_of_ble_eq_true rfl) (WF.t w 86 (by decide)) (Nat.le_of_ble_eq_true rfl) (p211_ok (d + 63) F (h) w (hI (h) (1) ((v3) + (1)).toNatClampNeg) (hI (h) (1) ((v3) + (2)).toNatClampNeg) r128 hr129) ?_
  show ex _ 306 (710, [some (.ref (1)), some (.ref (32)), some (.ref (86)), some (.int (v3))], [.int (r128), .int (r124)], h) = _
  by_cases hc130 : (r124) = ((r128) : Int32)
  · rw [if_pos hc130] at hp
    refine e_icmp_eq_t f306_710 hc130 ?_
    refine ex_weak (ls := [some (.ref (1)), some (.ref (32)), some (.ref (86)), some (.int (v3))]) (le2_ok ⟨Or.inr rfl, Or.inr rfl, Or.inr rfl, Or.inr rfl, trivial⟩) ?_
    exact p306_j2120_ok d F (K18) (hK18) (h) (w) (v3) _ hp
  · rw [if_neg hc130] at hp
    refine e_icmp_eq_f f306_710 hc130 ?_
    refine e_iconst (v := 0) f306_713 (by decide) ?_
    have hp := Option.some.inj hp
    subst hp
    exact e_ireturn f306_714 (by decide)
set_option maxRecDepth 100000 in
set_option maxHeartbeats 4000000 in
theorem p306_lb13_ok (d : Nat) (F : Nat) (K18 : HS → Int32 → Option (Int32 × HS)) (hK18 : ∀ (h : HS) (w : WF h) (u3 : Int32) (r : Int32 × HS), K18 h u3 = some r → ex (d + 66) 306 (18, [some (.ref (1)), some (.ref (32)), some (.ref (86)), some (.int (u3))], [], h) = some (some (.int (r.1)), r.2)) (h : HS) (w : WF h) (v3 : Int32) (r : Int32 × HS) (hp : lb13 F K18 h v3 = some r) : ex (d + 66) 306 (715, [some (.ref (1)), some (.ref (32)), some (.ref (86)), some (.int (v3))], [], h) = some (some (.int (r.1)), r.2) := by
  unfold lb13 at hp
  refine e_aload_n f306_715 rfl ?_
  refine e_aload_n f306_716 rfl ?_
  refine e_iload_n f306_717 rfl ?_
  refine e_iconst (v := 1) f306_718 (by decide) ?_
  refine e_iadd f306_719 ?_
  by_cases hg132 : ((v3) + (1)) < (0 : Int32) ∨ hN (h) (1) ≤ ((v3) + (1)).toNatClampNeg
  · rw [if_pos hg132] at hp; cases hp
  rw [if_neg hg132] at hp
  refine e_iaload f306_720 (Or.inr (WF.x w 1 (by decide))) rfl hg132 ?_
  obtain ⟨r133, hr134, hp⟩ := bind_some hp
  try dsimp only at hp
  refine e_callV (st := []) (o := 32) (as := [.int (hI (h) (1) ((v3) + (1)).toNatClampNeg)]) f306_721 (by decide) rfl rfl (Nat.le_of_ble_eq_true rfl) (WF.t w 32 (by decide)) (Nat.le_of_ble_eq_true rfl) (p127_ok (d + 64) (h) w (hI (h) (1) ((v3) + (1)).toNatClampNeg) r133 hr134) ?_
  show ex _ 306 (724, [some (.ref (1)), some (.ref (32)), some (.ref (86)), some (.int (v3))], [.int (r133.1)], r133.2) = _
  refine e_aload_n f306_724 rfl ?_
  refine e_aload_n f306_725 rfl ?_
  refine e_iload_n f306_726 rfl ?_
  refine e_iconst (v := 1) f306_727 (by decide) ?_
  refine e_iadd f306_728 ?_
  by_cases hg135 : ((v3) + (1)) < (0 : Int32) ∨ hN (r133.2) (1) ≤ ((v3) + (1)).toNatClampNeg
  · rw [if_pos hg135] at hp; cases hp
  rw [if_neg hg135] at hp
  refine e_iaload f306_729 (Or.inr (WF.x (p127_w (h) w (hI (h) (1) ((v3) + (1)).toNatClampNeg)  r133 hr134) 1 (by decide))) rfl hg135 ?_
  obtain ⟨r136, hr137, hp⟩ := bind_some hp
  try dsimp only at hp
  refine e_callV (st := [.int (r133.1)]) (o := 86) (as := [.int (hI (r133.2) (1) ((v3) + (1)).toNatClampNeg)]) f306_730 (by decide) rfl rfl (Nat.le_of_ble_eq_true rfl) (WF.t (p127_w (h) w (hI (h) (1) ((v3) + (1)).toNatClampNeg)  r133 hr134) 86 (by decide)) (Nat.le_of_ble_eq_true rfl) (p212_ok (d + 64) (r133.2) (p127_w (h) w (hI (h) (1) ((v3) + (1)).toNatClampNeg)  r133 hr134) (hI (r133.2) (1) ((v3) + (1)).toNatClampNeg) r136 hr137) ?_
  show ex _ 306 (733, [some (.ref (1)), some (.ref (32)), some (.ref (86)), some (.int (v3))], [.int (r136.1), .int (r133.1)], r136.2) = _
  by_cases hc138 : (r133.1) = ((r136.1) : Int32)
  · rw [if_pos hc138] at hp
    refine e_icmp_eq_t f306_733 hc138 ?_
    refine ex_weak (ls := [some (.ref (1)), some (.ref (32)), some (.ref (86)), some (.int (v3))]) (le2_ok ⟨Or.inr rfl, Or.inr rfl, Or.inr rfl, Or.inr rfl, trivial⟩) ?_
    exact p306_j2120_ok d F (K18) (hK18) (r136.2) ((p212_w (r133.2) (p127_w (h) w (hI (h) (1) ((v3) + (1)).toNatClampNeg)  r133 hr134) (hI (r133.2) (1) ((v3) + (1)).toNatClampNeg)  r136 hr137)) (v3) _ hp
  · rw [if_neg hc138] at hp
    refine e_icmp_eq_f f306_733 hc138 ?_
    refine e_iconst (v := 0) f306_736 (by decide) ?_
    have hp := Option.some.inj hp
    subst hp
    exact e_ireturn f306_737 (by decide)
set_option maxRecDepth 100000 in
set_option maxHeartbeats 4000000 in
theorem p306_lb14_ok (d : Nat) (F : Nat) (K18 : HS → Int32 → Option (Int32 × HS)) (hK18 : ∀ (h : HS) (w : WF h) (u3 : Int32) (r : Int32 × HS), K18 h u3 = some r → ex (d + 66) 306 (18, [some (.ref (1)), some (.ref (32)), some (.ref (86)), some (.int (u3))], [], h) = some (some (.int (r.1)), r.2)) (h : HS) (w : WF h) (v3 : Int32) (r : Int32 × HS) (hp : lb14 F K18 h v3 = some r) : ex (d + 66) 306 (738, [some (.ref (1)), some (.ref (32)), some (.ref (86)), some (.int (v3))], [], h) = some (some (.int (r.1)), r.2) := by
  unfold lb14 at hp
  refine e_aload_n f306_738 rfl ?_
  refine e_aload_n f306_739 rfl ?_
  refine e_iload_n f306_740 rfl ?_
  refine e_iconst (v := 1) f306_741 (by decide) ?_
  refine e_iadd f306_742 ?_
  by_cases hg140 : ((v3) + (1)) < (0 : Int32) ∨ hN (h) (1) ≤ ((v3) + (1)).toNatClampNeg
  · rw [if_pos hg140] at hp; cases hp
  rw [if_neg hg140] at hp
  refine e_iaload f306_743 (Or.inr (WF.x w 1 (by decide))) rfl hg140 ?_
  refine e_aload_n f306_744 rfl ?_
  refine e_iload_n f306_745 rfl ?_
  refine e_iconst (v := 2) f306_746 (by decide) ?_
  refine e_iadd f306_747 ?_
  by_cases hg141 : ((v3) + (2)) < (0 : Int32) ∨ hN (h) (1) ≤ ((v3) + (2)).toNatClampNeg
  · rw [if_pos hg141] at hp; cases hp
  rw [if_neg hg141] at hp
  refine e_iaload f306_748 (Or.inr (WF.x w 1 (by decide))) rfl hg141 ?_
  refine e_aload_n f306_749 rfl ?_
  refine e_iload_n f306_750 rfl ?_
  refine e_iconst (v := 3) f306_751 (by decide) ?_
  refine e_iadd f306_752 ?_
  by_cases hg142 : ((v3) + (3)) < (0 : Int32) ∨ hN (h) (1) ≤ ((v3) + (3)).toNatClampNeg
  · rw [if_pos hg142] at hp; cases hp
  rw [if_neg hg142] at hp
  refine e_iaload f306_753 (Or.inr (WF.x w 1 (by decide))) rfl hg142 ?_
  refine e_aload_n f306_754 rfl ?_
  refine e_iload_n f306_755 rfl ?_
  refine e_iconst (v := 4) f306_756 (by decide) ?_
  refine e_iadd f306_757 ?_
  by_cases hg143 : ((v3) + (4)) < (0 : Int32) ∨ hN (h) (1) ≤ ((v3) + (4)).toNatClampNeg
  · rw [if_pos hg143] at hp; cases hp
  rw [if_neg hg143] at hp
  refine e_iaload f306_758 (Or.inr (WF.x w 1 (by decide))) rfl hg143 ?_
  obtain ⟨r144, hr145, hp⟩ := bind_some hp
  try dsimp only at hp
  refine e_callV (st := []) (o := 32) (as := [.int (hI (h) (1) ((v3) + (1)).toNatClampNeg), .int (hI (h) (1) ((v3) + (2)).toNatClampNeg), .int (hI (h) (1) ((v3) + (3)).toNatClampNeg), .int (hI (h) (1) ((v3) + (4)).toNatClampNeg)]) f306_759 (by decide) rfl rfl (Nat.le_of_ble_eq_true rfl) (WF.t w 32 (by decide)) (Nat.le_of_ble_eq_true rfl) (p128_ok (d + 63) (h) w (hI (h) (1) ((v3) + (1)).toNatClampNeg) (hI (h) (1) ((v3) + (2)).toNatClampNeg) (hI (h) (1) ((v3) + (3)).toNatClampNeg) (hI (h) (1) ((v3) + (4)).toNatClampNeg) r144 hr145) ?_
  show ex _ 306 (762, [some (.ref (1)), some (.ref (32)), some (.ref (86)), some (.int (v3))], [.int (r144.1)], r144.2) = _
  refine e_aload_n f306_762 rfl ?_
  refine e_aload_n f306_763 rfl ?_
  refine e_iload_n f306_764 rfl ?_
  refine e_iconst (v := 1) f306_765 (by decide) ?_
  refine e_iadd f306_766 ?_
  by_cases hg146 : ((v3) + (1)) < (0 : Int32) ∨ hN (r144.2) (1) ≤ ((v3) + (1)).toNatClampNeg
  · rw [if_pos hg146] at hp; cases hp
  rw [if_neg hg146] at hp
  refine e_iaload f306_767 (Or.inr (WF.x (p128_w (h) w (hI (h) (1) ((v3) + (1)).toNatClampNeg) (hI (h) (1) ((v3) + (2)).toNatClampNeg) (hI (h) (1) ((v3) + (3)).toNatClampNeg) (hI (h) (1) ((v3) + (4)).toNatClampNeg)  r144 hr145) 1 (by decide))) rfl hg146 ?_
  refine e_aload_n f306_768 rfl ?_
  refine e_iload_n f306_769 rfl ?_
  refine e_iconst (v := 2) f306_770 (by decide) ?_
  refine e_iadd f306_771 ?_
  by_cases hg147 : ((v3) + (2)) < (0 : Int32) ∨ hN (r144.2) (1) ≤ ((v3) + (2)).toNatClampNeg
  · rw [if_pos hg147] at hp; cases hp
  rw [if_neg hg147] at hp
  refine e_iaload f306_772 (Or.inr (WF.x (p128_w (h) w (hI (h) (1) ((v3) + (1)).toNatClampNeg) (hI (h) (1) ((v3) + (2)).toNatClampNeg) (hI (h) (1) ((v3) + (3)).toNatClampNeg) (hI (h) (1) ((v3) + (4)).toNatClampNeg)  r144 hr145) 1 (by decide))) rfl hg147 ?_
  refine e_aload_n f306_773 rfl ?_
  refine e_iload_n f306_774 rfl ?_
  refine e_iconst (v := 3) f306_775 (by decide) ?_
  refine e_iadd f306_776 ?_
  by_cases hg148 : ((v3) + (3)) < (0 : Int32) ∨ hN (r144.2) (1) ≤ ((v3) + (3)).toNatClampNeg
  · rw [if_pos hg148] at hp; cases hp
  rw [if_neg hg148] at hp
  refine e_iaload f306_777 (Or.inr (WF.x (p128_w (h) w (hI (h) (1) ((v3) + (1)).toNatClampNeg) (hI (h) (1) ((v3) + (2)).toNatClampNeg) (hI (h) (1) ((v3) + (3)).toNatClampNeg) (hI (h) (1) ((v3) + (4)).toNatClampNeg)  r144 hr145) 1 (by decide))) rfl hg148 ?_
  refine e_aload_n f306_778 rfl ?_
  refine e_iload_n f306_779 rfl ?_
  refine e_iconst (v := 4) f306_780 (by decide) ?_
  refine e_iadd f306_781 ?_
  by_cases hg149 : ((v3) + (4)) < (0 : Int32) ∨ hN (r144.2) (1) ≤ ((v3) + (4)).toNatClampNeg
  · rw [if_pos hg149] at hp; cases hp
  rw [if_neg hg149] at hp
  refine e_iaload f306_782 (Or.inr (WF.x (p128_w (h) w (hI (h) (1) ((v3) + (1)).toNatClampNeg) (hI (h) (1) ((v3) + (2)).toNatClampNeg) (hI (h) (1) ((v3) + (3)).toNatClampNeg) (hI (h) (1) ((v3) + (4)).toNatClampNeg)  r144 hr145) 1 (by decide))) rfl hg149 ?_
  obtain ⟨r150, hr151, hp⟩ := bind_some hp
  try dsimp only at hp
  refine e_callV (st := [.int (r144.1)]) (o := 86) (as := [.int (hI (r144.2) (1) ((v3) + (1)).toNatClampNeg), .int (hI (r144.2) (1) ((v3) + (2)).toNatClampNeg), .int (hI (r144.2) (1) ((v3) + (3)).toNatClampNeg), .int (hI (r144.2) (1) ((v3) + (4)).toNatClampNeg)]) f306_783 (by decide) rfl rfl (Nat.le_of_ble_eq_true rfl) (WF.t (p128_w (h) w (hI (h) (1) ((v3) + (1)).toNatClampNeg) (hI (h) (1) ((v3) + (2)).toNatClampNeg) (hI (h) (1) ((v3) + (3)).toNatClampNeg) (hI (h) (1) ((v3) + (4)).toNatClampNeg)  r144 hr145) 86 (by decide)) (Nat.le_of_ble_eq_true rfl) (p214_ok (d + 63) (r144.2) (p128_w (h) w (hI (h) (1) ((v3) + (1)).toNatClampNeg) (hI (h) (1) ((v3) + (2)).toNatClampNeg) (hI (h) (1) ((v3) + (3)).toNatClampNeg) (hI (h) (1) ((v3) + (4)).toNatClampNeg)  r144 hr145) (hI (r144.2) (1) ((v3) + (1)).toNatClampNeg) (hI (r144.2) (1) ((v3) + (2)).toNatClampNeg) (hI (r144.2) (1) ((v3) + (3)).toNatClampNeg) (hI (r144.2) (1) ((v3) + (4)).toNatClampNeg) r150 hr151) ?_
  show ex _ 306 (786, [some (.ref (1)), some (.ref (32)), some (.ref (86)), some (.int (v3))], [.int (r150.1), .int (r144.1)], r150.2) = _
  by_cases hc152 : (r144.1) = ((r150.1) : Int32)
  · rw [if_pos hc152] at hp
    refine e_icmp_eq_t f306_786 hc152 ?_
    refine ex_weak (ls := [some (.ref (1)), some (.ref (32)), some (.ref (86)), some (.int (v3))]) (le2_ok ⟨Or.inr rfl, Or.inr rfl, Or.inr rfl, Or.inr rfl, trivial⟩) ?_
    exact p306_j2120_ok d F (K18) (hK18) (r150.2) ((p214_w (r144.2) (p128_w (h) w (hI (h) (1) ((v3) + (1)).toNatClampNeg) (hI (h) (1) ((v3) + (2)).toNatClampNeg) (hI (h) (1) ((v3) + (3)).toNatClampNeg) (hI (h) (1) ((v3) + (4)).toNatClampNeg)  r144 hr145) (hI (r144.2) (1) ((v3) + (1)).toNatClampNeg) (hI (r144.2) (1) ((v3) + (2)).toNatClampNeg) (hI (r144.2) (1) ((v3) + (3)).toNatClampNeg) (hI (r144.2) (1) ((v3) + (4)).toNatClampNeg)  r150 hr151)) (v3) _ hp
  · rw [if_neg hc152] at hp
    refine e_icmp_eq_f f306_786 hc152 ?_
    refine e_iconst (v := 0) f306_789 (by decide) ?_
    have hp := Option.some.inj hp
    subst hp
    exact e_ireturn f306_790 (by decide)
set_option maxRecDepth 100000 in
set_option maxHeartbeats 4000000 in
theorem p306_lb15_ok (d : Nat) (F : Nat) (K18 : HS → Int32 → Option (Int32 × HS)) (hK18 : ∀ (h : HS) (w : WF h) (u3 : Int32) (r : Int32 × HS), K18 h u3 = some r → ex (d + 66) 306 (18, [some (.ref (1)), some (.ref (32)), some (.ref (86)), some (.int (u3))], [], h) = some (some (.int (r.1)), r.2)) (h : HS) (w : WF h) (v3 : Int32) (r : Int32 × HS) (hp : lb15 F K18 h v3 = some r) : ex (d + 66) 306 (791, [some (.ref (1)), some (.ref (32)), some (.ref (86)), some (.int (v3))], [], h) = some (some (.int (r.1)), r.2) := by
  unfold lb15 at hp
  refine e_aload_n f306_791 rfl ?_
  refine e_aload_n f306_792 rfl ?_
  refine e_iload_n f306_793 rfl ?_
  refine e_iconst (v := 1) f306_794 (by decide) ?_
  refine e_iadd f306_795 ?_
  by_cases hg154 : ((v3) + (1)) < (0 : Int32) ∨ hN (h) (1) ≤ ((v3) + (1)).toNatClampNeg
  · rw [if_pos hg154] at hp; cases hp
  rw [if_neg hg154] at hp
  refine e_iaload f306_796 (Or.inr (WF.x w 1 (by decide))) rfl hg154 ?_
  obtain ⟨r155, hr156, hp⟩ := bind_some hp
  try dsimp only at hp
  refine e_callV (st := []) (o := 32) (as := [.int (hI (h) (1) ((v3) + (1)).toNatClampNeg)]) f306_797 (by decide) rfl rfl (Nat.le_of_ble_eq_true rfl) (WF.t w 32 (by decide)) (Nat.le_of_ble_eq_true rfl) (p129_ok (d + 63) (h) w (hI (h) (1) ((v3) + (1)).toNatClampNeg) r155 hr156) ?_
  show ex _ 306 (800, [some (.ref (1)), some (.ref (32)), some (.ref (86)), some (.int (v3))], [.int (r155.1)], r155.2) = _
  refine e_aload_n f306_800 rfl ?_
  refine e_aload_n f306_801 rfl ?_
  refine e_iload_n f306_802 rfl ?_
  refine e_iconst (v := 1) f306_803 (by decide) ?_
  refine e_iadd f306_804 ?_
  by_cases hg157 : ((v3) + (1)) < (0 : Int32) ∨ hN (r155.2) (1) ≤ ((v3) + (1)).toNatClampNeg
  · rw [if_pos hg157] at hp; cases hp
  rw [if_neg hg157] at hp
  refine e_iaload f306_805 (Or.inr (WF.x (p129_w (h) w (hI (h) (1) ((v3) + (1)).toNatClampNeg)  r155 hr156) 1 (by decide))) rfl hg157 ?_
  obtain ⟨r158, hr159, hp⟩ := bind_some hp
  try dsimp only at hp
  refine e_callV (st := [.int (r155.1)]) (o := 86) (as := [.int (hI (r155.2) (1) ((v3) + (1)).toNatClampNeg)]) f306_806 (by decide) rfl rfl (Nat.le_of_ble_eq_true rfl) (WF.t (p129_w (h) w (hI (h) (1) ((v3) + (1)).toNatClampNeg)  r155 hr156) 86 (by decide)) (Nat.le_of_ble_eq_true rfl) (p215_ok (d + 64) (r155.2) (p129_w (h) w (hI (h) (1) ((v3) + (1)).toNatClampNeg)  r155 hr156) (hI (r155.2) (1) ((v3) + (1)).toNatClampNeg) r158 hr159) ?_
  show ex _ 306 (809, [some (.ref (1)), some (.ref (32)), some (.ref (86)), some (.int (v3))], [.int (r158.1), .int (r155.1)], r158.2) = _
  by_cases hc160 : (r155.1) = ((r158.1) : Int32)
  · rw [if_pos hc160] at hp
    refine e_icmp_eq_t f306_809 hc160 ?_
    refine ex_weak (ls := [some (.ref (1)), some (.ref (32)), some (.ref (86)), some (.int (v3))]) (le2_ok ⟨Or.inr rfl, Or.inr rfl, Or.inr rfl, Or.inr rfl, trivial⟩) ?_
    exact p306_j2120_ok d F (K18) (hK18) (r158.2) ((p215_w (r155.2) (p129_w (h) w (hI (h) (1) ((v3) + (1)).toNatClampNeg)  r155 hr156) (hI (r155.2) (1) ((v3) + (1)).toNatClampNeg)  r158 hr159)) (v3) _ hp
  · rw [if_neg hc160] at hp
    refine e_icmp_eq_f f306_809 hc160 ?_
    refine e_iconst (v := 0) f306_812 (by decide) ?_
    have hp := Option.some.inj hp
    subst hp
    exact e_ireturn f306_813 (by decide)
set_option maxRecDepth 100000 in
set_option maxHeartbeats 4000000 in
theorem p306_lb16_ok (d : Nat) (F : Nat) (K18 : HS → Int32 → Option (Int32 × HS)) (hK18 : ∀ (h : HS) (w : WF h) (u3 : Int32) (r : Int32 × HS), K18 h u3 = some r → ex (d + 66) 306 (18, [some (.ref (1)), some (.ref (32)), some (.ref (86)), some (.int (u3))], [], h) = some (some (.int (r.1)), r.2)) (h : HS) (w : WF h) (v3 : Int32) (r : Int32 × HS) (hp : lb16 F K18 h v3 = some r) : ex (d + 66) 306 (814, [some (.ref (1)), some (.ref (32)), some (.ref (86)), some (.int (v3))], [], h) = some (some (.int (r.1)), r.2) := by
  unfold lb16 at hp
  refine e_aload_n f306_814 rfl ?_
  refine e_aload_n f306_815 rfl ?_
  refine e_iload_n f306_816 rfl ?_
  refine e_iconst (v := 1) f306_817 (by decide) ?_
  refine e_iadd f306_818 ?_
  by_cases hg162 : ((v3) + (1)) < (0 : Int32) ∨ hN (h) (1) ≤ ((v3) + (1)).toNatClampNeg
  · rw [if_pos hg162] at hp; cases hp
  rw [if_neg hg162] at hp
  refine e_iaload f306_819 (Or.inr (WF.x w 1 (by decide))) rfl hg162 ?_
  obtain ⟨r163, hr164, hp⟩ := bind_some hp
  try dsimp only at hp
  refine e_callV (st := []) (o := 32) (as := [.int (hI (h) (1) ((v3) + (1)).toNatClampNeg)]) f306_820 (by decide) rfl rfl (Nat.le_of_ble_eq_true rfl) (WF.t w 32 (by decide)) (Nat.le_of_ble_eq_true rfl) (p130_ok (d + 63) (h) w (hI (h) (1) ((v3) + (1)).toNatClampNeg) r163 hr164) ?_
  show ex _ 306 (823, [some (.ref (1)), some (.ref (32)), some (.ref (86)), some (.int (v3))], [.int (r163.1)], r163.2) = _
  refine e_aload_n f306_823 rfl ?_
  refine e_aload_n f306_824 rfl ?_
  refine e_iload_n f306_825 rfl ?_
  refine e_iconst (v := 1) f306_826 (by decide) ?_
  refine e_iadd f306_827 ?_
  by_cases hg165 : ((v3) + (1)) < (0 : Int32) ∨ hN (r163.2) (1) ≤ ((v3) + (1)).toNatClampNeg
  · rw [if_pos hg165] at hp; cases hp
  rw [if_neg hg165] at hp
  refine e_iaload f306_828 (Or.inr (WF.x (p130_w (h) w (hI (h) (1) ((v3) + (1)).toNatClampNeg)  r163 hr164) 1 (by decide))) rfl hg165 ?_
  obtain ⟨r166, hr167, hp⟩ := bind_some hp
  try dsimp only at hp
  refine e_callV (st := [.int (r163.1)]) (o := 86) (as := [.int (hI (r163.2) (1) ((v3) + (1)).toNatClampNeg)]) f306_829 (by decide) rfl rfl (Nat.le_of_ble_eq_true rfl) (WF.t (p130_w (h) w (hI (h) (1) ((v3) + (1)).toNatClampNeg)  r163 hr164) 86 (by decide)) (Nat.le_of_ble_eq_true rfl) (p217_ok (d + 64) (r163.2) (p130_w (h) w (hI (h) (1) ((v3) + (1)).toNatClampNeg)  r163 hr164) (hI (r163.2) (1) ((v3) + (1)).toNatClampNeg) r166 hr167) ?_
  show ex _ 306 (832, [some (.ref (1)), some (.ref (32)), some (.ref (86)), some (.int (v3))], [.int (r166.1), .int (r163.1)], r166.2) = _
  by_cases hc168 : (r163.1) = ((r166.1) : Int32)
  · rw [if_pos hc168] at hp
    refine e_icmp_eq_t f306_832 hc168 ?_
    refine ex_weak (ls := [some (.ref (1)), some (.ref (32)), some (.ref (86)), some (.int (v3))]) (le2_ok ⟨Or.inr rfl, Or.inr rfl, Or.inr rfl, Or.inr rfl, trivial⟩) ?_
    exact p306_j2120_ok d F (K18) (hK18) (r166.2) ((p217_w (r163.2) (p130_w (h) w (hI (h) (1) ((v3) + (1)).toNatClampNeg)  r163 hr164) (hI (r163.2) (1) ((v3) + (1)).toNatClampNeg)  r166 hr167)) (v3) _ hp
  · rw [if_neg hc168] at hp
    refine e_icmp_eq_f f306_832 hc168 ?_
    refine e_iconst (v := 0) f306_835 (by decide) ?_
    have hp := Option.some.inj hp
    subst hp
    exact e_ireturn f306_836 (by decide)
set_option maxRecDepth 100000 in
set_option maxHeartbeats 4000000 in
theorem p306_lb17_ok (d : Nat) (F : Nat) (K18 : HS → Int32 → Option (Int32 × HS)) (hK18 : ∀ (h : HS) (w : WF h) (u3 : Int32) (r : Int32 × HS), K18 h u3 = some r → ex (d + 66) 306 (18, [some (.ref (1)), some (.ref (32)), some (.ref (86)), some (.int (u3))], [], h) = some (some (.int (r.1)), r.2)) (h : HS) (w : WF h) (v3 : Int32) (r : Int32 × HS) (hp : lb17 F K18 h v3 = some r) : ex (d + 66) 306 (837, [some (.ref (1)), some (.ref (32)), some (.ref (86)), some (.int (v3))], [], h) = some (some (.int (r.1)), r.2) := by
  unfold lb17 at hp
  refine e_aload_n f306_837 rfl ?_
  refine e_aload_n f306_838 rfl ?_
  refine e_iload_n f306_839 rfl ?_
  refine e_iconst (v := 1) f306_840 (by decide) ?_
  refine e_iadd f306_841 ?_
  by_cases hg170 : ((v3) + (1)) < (0 : Int32) ∨ hN (h) (1) ≤ ((v3) + (1)).toNatClampNeg
  · rw [if_pos hg170] at hp; cases hp
  rw [if_neg hg170] at hp
  refine e_iaload f306_842 (Or.inr (WF.x w 1 (by decide))) rfl hg170 ?_
  refine e_aload_n f306_843 rfl ?_
  refine e_iload_n f306_844 rfl ?_
  refine e_iconst (v := 2) f306_845 (by decide) ?_
  refine e_iadd f306_846 ?_
  by_cases hg171 : ((v3) + (2)) < (0 : Int32) ∨ hN (h) (1) ≤ ((v3) + (2)).toNatClampNeg
  · rw [if_pos hg171] at hp; cases hp
  rw [if_neg hg171] at hp
  refine e_iaload f306_847 (Or.inr (WF.x w 1 (by decide))) rfl hg171 ?_
  refine e_aload_n f306_848 rfl ?_
  refine e_iload_n f306_849 rfl ?_
  refine e_iconst (v := 3) f306_850 (by decide) ?_
  refine e_iadd f306_851 ?_
  by_cases hg172 : ((v3) + (3)) < (0 : Int32) ∨ hN (h) (1) ≤ ((v3) + (3)).toNatClampNeg
  · rw [if_pos hg172] at hp; cases hp
  rw [if_neg hg172] at hp
  refine e_iaload f306_852 (Or.inr (WF.x w 1 (by decide))) rfl hg172 ?_
  refine e_aload_n f306_853 rfl ?_
  refine e_iload_n f306_854 rfl ?_
  refine e_iconst (v := 4) f306_855 (by decide) ?_
  refine e_iadd f306_856 ?_
  by_cases hg173 : ((v3) + (4)) < (0 : Int32) ∨ hN (h) (1) ≤ ((v3) + (4)).toNatClampNeg
  · rw [if_pos hg173] at hp; cases hp
  rw [if_neg hg173] at hp
  refine e_iaload f306_857 (Or.inr (WF.x w 1 (by decide))) rfl hg173 ?_
  refine e_aload_n f306_858 rfl ?_
  refine e_iload_n f306_859 rfl ?_
  refine e_iconst (v := 5) f306_860 (by decide) ?_
  refine e_iadd f306_861 ?_
  by_cases hg174 : ((v3) + (5)) < (0 : Int32) ∨ hN (h) (1) ≤ ((v3) + (5)).toNatClampNeg
  · rw [if_pos hg174] at hp; cases hp
  rw [if_neg hg174] at hp
  refine e_iaload f306_862 (Or.inr (WF.x w 1 (by decide))) rfl hg174 ?_
  refine e_aload_n f306_863 rfl ?_
  refine e_iload_n f306_864 rfl ?_
  refine e_bipush (v := 6) f306_865 (by decide) ?_
  refine e_iadd f306_867 ?_
  by_cases hg175 : ((v3) + (6)) < (0 : Int32) ∨ hN (h) (1) ≤ ((v3) + (6)).toNatClampNeg
  · rw [if_pos hg175] at hp; cases hp
  rw [if_neg hg175] at hp
  refine e_iaload f306_868 (Or.inr (WF.x w 1 (by decide))) rfl hg175 ?_
  refine e_aload_n f306_869 rfl ?_
  refine e_iload_n f306_870 rfl ?_
  refine e_bipush (v := 7) f306_871 (by decide) ?_
  refine e_iadd f306_873 ?_
  by_cases hg176 : ((v3) + (7)) < (0 : Int32) ∨ hN (h) (1) ≤ ((v3) + (7)).toNatClampNeg
  · rw [if_pos hg176] at hp; cases hp
  rw [if_neg hg176] at hp
  refine e_iaload f306_874 (Or.inr (WF.x w 1 (by decide))) rfl hg176 ?_
  obtain ⟨r177, hr178, hp⟩ := bind_some hp
  try dsimp only at hp
  refine e_callV (st := []) (o := 32) (as := [.int (hI (h) (1) ((v3) + (1)).toNatClampNeg), .int (hI (h) (1) ((v3) + (2)).toNatClampNeg), .int (hI (h) (1) ((v3) + (3)).toNatClampNeg), .int (hI (h) (1) ((v3) + (4)).toNatClampNeg), .int (hI (h) (1) ((v3) + (5)).toNatClampNeg), .int (hI (h) (1) ((v3) + (6)).toNatClampNeg), .int (hI (h) (1) ((v3) + (7)).toNatClampNeg)]) f306_875 (by decide) rfl rfl (Nat.le_of_ble_eq_true rfl) (WF.t w 32 (by decide)) (Nat.le_of_ble_eq_true rfl) (p131_ok (d + 62) (h) w (hI (h) (1) ((v3) + (1)).toNatClampNeg) (hI (h) (1) ((v3) + (2)).toNatClampNeg) (hI (h) (1) ((v3) + (3)).toNatClampNeg) (hI (h) (1) ((v3) + (4)).toNatClampNeg) (hI (h) (1) ((v3) + (5)).toNatClampNeg) (hI (h) (1) ((v3) + (6)).toNatClampNeg) (hI (h) (1) ((v3) + (7)).toNatClampNeg) r177 hr178) ?_
  show ex _ 306 (878, [some (.ref (1)), some (.ref (32)), some (.ref (86)), some (.int (v3))], [.int (r177.1)], r177.2) = _
  refine e_aload_n f306_878 rfl ?_
  refine e_aload_n f306_879 rfl ?_
  refine e_iload_n f306_880 rfl ?_
  refine e_iconst (v := 1) f306_881 (by decide) ?_
  refine e_iadd f306_882 ?_
  by_cases hg179 : ((v3) + (1)) < (0 : Int32) ∨ hN (r177.2) (1) ≤ ((v3) + (1)).toNatClampNeg
  · rw [if_pos hg179] at hp; cases hp
  rw [if_neg hg179] at hp
  refine e_iaload f306_883 (Or.inr (WF.x (p131_w (h) w (hI (h) (1) ((v3) + (1)).toNatClampNeg) (hI (h) (1) ((v3) + (2)).toNatClampNeg) (hI (h) (1) ((v3) + (3)).toNatClampNeg) (hI (h) (1) ((v3) + (4)).toNatClampNeg) (hI (h) (1) ((v3) + (5)).toNatClampNeg) (hI (h) (1) ((v3) + (6)).toNatClampNeg) (hI (h) (1) ((v3) + (7)).toNatClampNeg)  r177 hr178) 1 (by decide))) rfl hg179 ?_
  refine e_aload_n f306_884 rfl ?_
  refine e_iload_n f306_885 rfl ?_
  refine e_iconst (v := 2) f306_886 (by decide) ?_
  refine e_iadd f306_887 ?_
  by_cases hg180 : ((v3) + (2)) < (0 : Int32) ∨ hN (r177.2) (1) ≤ ((v3) + (2)).toNatClampNeg
  · rw [if_pos hg180] at hp; cases hp
  rw [if_neg hg180] at hp
  refine e_iaload f306_888 (Or.inr (WF.x (p131_w (h) w (hI (h) (1) ((v3) + (1)).toNatClampNeg) (hI (h) (1) ((v3) + (2)).toNatClampNeg) (hI (h) (1) ((v3) + (3)).toNatClampNeg) (hI (h) (1) ((v3) + (4)).toNatClampNeg) (hI (h) (1) ((v3) + (5)).toNatClampNeg) (hI (h) (1) ((v3) + (6)).toNatClampNeg) (hI (h) (1) ((v3) + (7)).toNatClampNeg)  r177 hr178) 1 (by decide))) rfl hg180 ?_
  refine e_aload_n f306_889 rfl ?_
  refine e_iload_n f306_890 rfl ?_
  refine e_iconst (v := 3) f306_891 (by decide) ?_
  refine e_iadd f306_892 ?_
  by_cases hg181 : ((v3) + (3)) < (0 : Int32) ∨ hN (r177.2) (1) ≤ ((v3) + (3)).toNatClampNeg
  · rw [if_pos hg181] at hp; cases hp
  rw [if_neg hg181] at hp
  refine e_iaload f306_893 (Or.inr (WF.x (p131_w (h) w (hI (h) (1) ((v3) + (1)).toNatClampNeg) (hI (h) (1) ((v3) + (2)).toNatClampNeg) (hI (h) (1) ((v3) + (3)).toNatClampNeg) (hI (h) (1) ((v3) + (4)).toNatClampNeg) (hI (h) (1) ((v3) + (5)).toNatClampNeg) (hI (h) (1) ((v3) + (6)).toNatClampNeg) (hI (h) (1) ((v3) + (7)).toNatClampNeg)  r177 hr178) 1 (by decide))) rfl hg181 ?_
  refine e_aload_n f306_894 rfl ?_
  refine e_iload_n f306_895 rfl ?_
  refine e_iconst (v := 4) f306_896 (by decide) ?_
  refine e_iadd f306_897 ?_
  by_cases hg182 : ((v3) + (4)) < (0 : Int32) ∨ hN (r177.2) (1) ≤ ((v3) + (4)).toNatClampNeg
  · rw [if_pos hg182] at hp; cases hp
  rw [if_neg hg182] at hp
  refine e_iaload f306_898 (Or.inr (WF.x (p131_w (h) w (hI (h) (1) ((v3) + (1)).toNatClampNeg) (hI (h) (1) ((v3) + (2)).toNatClampNeg) (hI (h) (1) ((v3) + (3)).toNatClampNeg) (hI (h) (1) ((v3) + (4)).toNatClampNeg) (hI (h) (1) ((v3) + (5)).toNatClampNeg) (hI (h) (1) ((v3) + (6)).toNatClampNeg) (hI (h) (1) ((v3) + (7)).toNatClampNeg)  r177 hr178) 1 (by decide))) rfl hg182 ?_
  refine e_aload_n f306_899 rfl ?_
  refine e_iload_n f306_900 rfl ?_
  refine e_iconst (v := 5) f306_901 (by decide) ?_
  refine e_iadd f306_902 ?_
  by_cases hg183 : ((v3) + (5)) < (0 : Int32) ∨ hN (r177.2) (1) ≤ ((v3) + (5)).toNatClampNeg
  · rw [if_pos hg183] at hp; cases hp
  rw [if_neg hg183] at hp
  refine e_iaload f306_903 (Or.inr (WF.x (p131_w (h) w (hI (h) (1) ((v3) + (1)).toNatClampNeg) (hI (h) (1) ((v3) + (2)).toNatClampNeg) (hI (h) (1) ((v3) + (3)).toNatClampNeg) (hI (h) (1) ((v3) + (4)).toNatClampNeg) (hI (h) (1) ((v3) + (5)).toNatClampNeg) (hI (h) (1) ((v3) + (6)).toNatClampNeg) (hI (h) (1) ((v3) + (7)).toNatClampNeg)  r177 hr178) 1 (by decide))) rfl hg183 ?_
  refine e_aload_n f306_904 rfl ?_
  refine e_iload_n f306_905 rfl ?_
  refine e_bipush (v := 6) f306_906 (by decide) ?_
  refine e_iadd f306_908 ?_
  by_cases hg184 : ((v3) + (6)) < (0 : Int32) ∨ hN (r177.2) (1) ≤ ((v3) + (6)).toNatClampNeg
  · rw [if_pos hg184] at hp; cases hp
  rw [if_neg hg184] at hp
  refine e_iaload f306_909 (Or.inr (WF.x (p131_w (h) w (hI (h) (1) ((v3) + (1)).toNatClampNeg) (hI (h) (1) ((v3) + (2)).toNatClampNeg) (hI (h) (1) ((v3) + (3)).toNatClampNeg) (hI (h) (1) ((v3) + (4)).toNatClampNeg) (hI (h) (1) ((v3) + (5)).toNatClampNeg) (hI (h) (1) ((v3) + (6)).toNatClampNeg) (hI (h) (1) ((v3) + (7)).toNatClampNeg)  r177 hr178) 1 (by decide))) rfl hg184 ?_
  refine e_aload_n f306_910 rfl ?_
  refine e_iload_n f306_911 rfl ?_
  refine e_bipush (v := 7) f306_912 (by decide) ?_
  refine e_iadd f306_914 ?_
  by_cases hg185 : ((v3) + (7)) < (0 : Int32) ∨ hN (r177.2) (1) ≤ ((v3) + (7)).toNatClampNeg
  · rw [if_pos hg185] at hp; cases hp
  rw [if_neg hg185] at hp
  refine e_iaload f306_915 (Or.inr (WF.x (p131_w (h) w (hI (h) (1) ((v3) + (1)).toNatClampNeg) (hI (h) (1) ((v3) + (2)).toNatClampNeg) (hI (h) (1) ((v3) + (3)).toNatClampNeg) (hI (h) (1) ((v3) + (4)).toNatClampNeg) (hI (h) (1) ((v3) + (5)).toNatClampNeg) (hI (h) (1) ((v3) + (6)).toNatClampNeg) (hI (h) (1) ((v3) + (7)).toNatClampNeg)  r177 hr178) 1 (by decide))) rfl hg185 ?_
  obtain ⟨r186, hr187, hp⟩ := bind_some hp
  try dsimp only at hp
  refine e_callV (st := [.int (r177.1)]) (o := 86) (as := [.int (hI (r177.2) (1) ((v3) + (1)).toNatClampNeg), .int (hI (r177.2) (1) ((v3) + (2)).toNatClampNeg), .int (hI (r177.2) (1) ((v3) + (3)).toNatClampNeg), .int (hI (r177.2) (1) ((v3) + (4)).toNatClampNeg), .int (hI (r177.2) (1) ((v3) + (5)).toNatClampNeg), .int (hI (r177.2) (1) ((v3) + (6)).toNatClampNeg), .int (hI (r177.2) (1) ((v3) + (7)).toNatClampNeg)]) f306_916 (by decide) rfl rfl (Nat.le_of_ble_eq_true rfl) (WF.t (p131_w (h) w (hI (h) (1) ((v3) + (1)).toNatClampNeg) (hI (h) (1) ((v3) + (2)).toNatClampNeg) (hI (h) (1) ((v3) + (3)).toNatClampNeg) (hI (h) (1) ((v3) + (4)).toNatClampNeg) (hI (h) (1) ((v3) + (5)).toNatClampNeg) (hI (h) (1) ((v3) + (6)).toNatClampNeg) (hI (h) (1) ((v3) + (7)).toNatClampNeg)  r177 hr178) 86 (by decide)) (Nat.le_of_ble_eq_true rfl) (p219_ok (d + 62) (r177.2) (p131_w (h) w (hI (h) (1) ((v3) + (1)).toNatClampNeg) (hI (h) (1) ((v3) + (2)).toNatClampNeg) (hI (h) (1) ((v3) + (3)).toNatClampNeg) (hI (h) (1) ((v3) + (4)).toNatClampNeg) (hI (h) (1) ((v3) + (5)).toNatClampNeg) (hI (h) (1) ((v3) + (6)).toNatClampNeg) (hI (h) (1) ((v3) + (7)).toNatClampNeg)  r177 hr178) (hI (r177.2) (1) ((v3) + (1)).toNatClampNeg) (hI (r177.2) (1) ((v3) + (2)).toNatClampNeg) (hI (r177.2) (1) ((v3) + (3)).toNatClampNeg) (hI (r177.2) (1) ((v3) + (4)).toNatClampNeg) (hI (r177.2) (1) ((v3) + (5)).toNatClampNeg) (hI (r177.2) (1) ((v3) + (6)).toNatClampNeg) (hI (r177.2) (1) ((v3) + (7)).toNatClampNeg) r186 hr187) ?_
  show ex _ 306 (919, [some (.ref (1)), some (.ref (32)), some (.ref (86)), some (.int (v3))], [.int (r186.1), .int (r177.1)], r186.2) = _
  by_cases hc188 : (r177.1) = ((r186.1) : Int32)
  · rw [if_pos hc188] at hp
    refine e_icmp_eq_t f306_919 hc188 ?_
    refine ex_weak (ls := [some (.ref (1)), some (.ref (32)), some (.ref (86)), some (.int (v3))]) (le2_ok ⟨Or.inr rfl, Or.inr rfl, Or.inr rfl, Or.inr rfl, trivial⟩) ?_
    exact p306_j2120_ok d F (K18) (hK18) (r186.2) ((p219_w (r177.2) (p131_w (h) w (hI (h) (1) ((v3) + (1)).toNatClampNeg) (hI (h) (1) ((v3) + (2)).toNatClampNeg) (hI (h) (1) ((v3) + (3)).toNatClampNeg) (hI (h) (1) ((v3) + (4)).toNatClampNeg) (hI (h) (1) ((v3) + (5)).toNatClampNeg) (hI (h) (1) ((v3) + (6)).toNatClampNeg) (hI (h) (1) ((v3) + (7)).toNatClampNeg)  r177 hr178) (hI (r177.2) (1) ((v3) + (1)).toNatClampNeg) (hI (r177.2) (1) ((v3) + (2)).toNatClampNeg) (hI (r177.2) (1) ((v3) + (3)).toNatClampNeg) (hI (r177.2) (1) ((v3) + (4)).toNatClampNeg) (hI (r177.2) (1) ((v3) + (5)).toNatClampNeg) (hI (r177.2) (1) ((v3) + (6)).toNatClampNeg) (hI (r177.2) (1) ((v3) + (7)).toNatClampNeg)  r186 hr187)) (v3) _ hp
  · rw [if_neg hc188] at hp
    refine e_icmp_eq_f f306_919 hc188 ?_
    refine e_iconst (v := 0) f306_922 (by decide) ?_
    have hp := Option.some.inj hp
    subst hp
    exact e_ireturn f306_923 (by decide)
set_option maxRecDepth 100000 in
set_option maxHeartbeats 4000000 in
theorem p306_lb18_ok (d : Nat) (F : Nat) (K18 : HS → Int32 → Option (Int32 × HS)) (hK18 : ∀ (h : HS) (w : WF h) (u3 : Int32) (r : Int32 × HS), K18 h u3 = some r → ex (d + 66) 306 (18, [some (.ref (1)), some (.ref (32)), some (.ref (86)), some (.int (u3))], [], h) = some (some (.int (r.1)), r.2)) (h : HS) (w : WF h) (v3 : Int32) (r : Int32 × HS) (hp : lb18 F K18 h v3 = some r) : ex (d + 66) 306 (924, [some (.ref (1)), some (.ref (32)), some (.ref (86)), some (.int (v3))], [], h) = some (some (.int (r.1)), r.2) := by
  unfold lb18 at hp
  refine e_aload_n f306_924 rfl ?_
  refine e_aload_n f306_925 rfl ?_
  refine e_iload_n f306_926 rfl ?_
  refine e_iconst (v := 1) f306_927 (by decide) ?_
  refine e_iadd f306_928 ?_
  by_cases hg190 : ((v3) + (1)) < (0 : Int32) ∨ hN (h) (1) ≤ ((v3) + (1)).toNatClampNeg
  · rw [if_pos hg190] at hp; cases hp
  rw [if_neg hg190] at hp
  refine e_iaload f306_929 (Or.inr (WF.x w 1 (by decide))) rfl hg190 ?_
  obtain ⟨r191, hr192, hp⟩ := bind_some hp
  try dsimp only at hp
  refine e_callV (st := []) (o := 32) (as := [.int (hI (h) (1) ((v3) + (1)).toNatClampNeg)]) f306_930 (by decide) rfl rfl (Nat.le_of_ble_eq_true rfl) (WF.t w 32 (by decide)) (Nat.le_of_ble_eq_true rfl) (p132_ok (d + 63) (h) w (hI (h) (1) ((v3) + (1)).toNatClampNeg) r191 hr192) ?_
  show ex _ 306 (933, [some (.ref (1)), some (.ref (32)), some (.ref (86)), some (.int (v3))], [.int (r191.1)], r191.2) = _
  refine e_aload_n f306_933 rfl ?_
  refine e_aload_n f306_934 rfl ?_
  refine e_iload_n f306_935 rfl ?_
  refine e_iconst (v := 1) f306_936 (by decide) ?_
  refine e_iadd f306_937 ?_
  by_cases hg193 : ((v3) + (1)) < (0 : Int32) ∨ hN (r191.2) (1) ≤ ((v3) + (1)).toNatClampNeg
  · rw [if_pos hg193] at hp; cases hp
  rw [if_neg hg193] at hp
  refine e_iaload f306_938 (Or.inr (WF.x (p132_w (h) w (hI (h) (1) ((v3) + (1)).toNatClampNeg)  r191 hr192) 1 (by decide))) rfl hg193 ?_
  obtain ⟨r194, hr195, hp⟩ := bind_some hp
  try dsimp only at hp
  refine e_callV (st := [.int (r191.1)]) (o := 86) (as := [.int (hI (r191.2) (1) ((v3) + (1)).toNatClampNeg)]) f306_939 (by decide) rfl rfl (Nat.le_of_ble_eq_true rfl) (WF.t (p132_w (h) w (hI (h) (1) ((v3) + (1)).toNatClampNeg)  r191 hr192) 86 (by decide)) (Nat.le_of_ble_eq_true rfl) (p221_ok (d + 63) (r191.2) (p132_w (h) w (hI (h) (1) ((v3) + (1)).toNatClampNeg)  r191 hr192) (hI (r191.2) (1) ((v3) + (1)).toNatClampNeg) r194 hr195) ?_
  show ex _ 306 (942, [some (.ref (1)), some (.ref (32)), some (.ref (86)), some (.int (v3))], [.int (r194.1), .int (r191.1)], r194.2) = _
  by_cases hc196 : (r191.1) = ((r194.1) : Int32)
  · rw [if_pos hc196] at hp
    refine e_icmp_eq_t f306_942 hc196 ?_
    refine ex_weak (ls := [some (.ref (1)), some (.ref (32)), some (.ref (86)), some (.int (v3))]) (le2_ok ⟨Or.inr rfl, Or.inr rfl, Or.inr rfl, Or.inr rfl, trivial⟩) ?_
    exact p306_j2120_ok d F (K18) (hK18) (r194.2) ((p221_w (r191.2) (p132_w (h) w (hI (h) (1) ((v3) + (1)).toNatClampNeg)  r191 hr192) (hI (r191.2) (1) ((v3) + (1)).toNatClampNeg)  r194 hr195)) (v3) _ hp
  · rw [if_neg hc196] at hp
    refine e_icmp_eq_f f306_942 hc196 ?_
    refine e_iconst (v := 0) f306_945 (by decide) ?_
    have hp := Option.some.inj hp
    subst hp
    exact e_ireturn f306_946 (by decide)
set_option maxRecDepth 100000 in
set_option maxHeartbeats 4000000 in
theorem p306_lb19_ok (d : Nat) (F : Nat) (K18 : HS → Int32 → Option (Int32 × HS)) (hK18 : ∀ (h : HS) (w : WF h) (u3 : Int32) (r : Int32 × HS), K18 h u3 = some r → ex (d + 66) 306 (18, [some (.ref (1)), some (.ref (32)), some (.ref (86)), some (.int (u3))], [], h) = some (some (.int (r.1)), r.2)) (h : HS) (w : WF h) (v3 : Int32) (r : Int32 × HS) (hp : lb19 F K18 h v3 = some r) : ex (d + 66) 306 (947, [some (.ref (1)), some (.ref (32)), some (.ref (86)), some (.int (v3))], [], h) = some (some (.int (r.1)), r.2) := by
  unfold lb19 at hp
  refine e_aload_n f306_947 rfl ?_
  refine e_aload_n f306_948 rfl ?_
  refine e_iload_n f306_949 rfl ?_
  refine e_iconst (v := 1) f306_950 (by decide) ?_
  refine e_iadd f306_951 ?_
  by_cases hg198 : ((v3) + (1)) < (0 : Int32) ∨ hN (h) (1) ≤ ((v3) + (1)).toNatClampNeg
  · rw [if_pos hg198] at hp; cases hp
  rw [if_neg hg198] at hp
  refine e_iaload f306_952 (Or.inr (WF.x w 1 (by decide))) rfl hg198 ?_
  refine e_aload_n f306_953 rfl ?_
  refine e_iload_n f306_954 rfl ?_
  refine e_iconst (v := 2) f306_955 (by decide) ?_
  refine e_iadd f306_956 ?_
  by_cases hg199 : ((v3) + (2)) < (0 : Int32) ∨ hN (h) (1) ≤ ((v3) + (2)).toNatClampNeg
  · rw [if_pos hg199] at hp; cases hp
  rw [if_neg hg199] at hp
  refine e_iaload f306_957 (Or.inr (WF.x w 1 (by decide))) rfl hg199 ?_
  obtain ⟨r200, hr201, hp⟩ := bind_some hp
  try dsimp only at hp
  refine e_callV (st := []) (o := 32) (as := [.int (hI (h) (1) ((v3) + (1)).toNatClampNeg), .int (hI (h) (1) ((v3) + (2)).toNatClampNeg)]) f306_958 (by decide) rfl rfl (Nat.le_of_ble_eq_true rfl) (WF.t w 32 (by decide)) (Nat.le_of_ble_eq_true rfl) (p133_ok (d + 63) (h) w (hI (h) (1) ((v3) + (1)).toNatClampNeg) (hI (h) (1) ((v3) + (2)).toNatClampNeg) r200 hr201) ?_
  show ex _ 306 (961, [some (.ref (1)), some (.ref (32)), some (.ref (86)), some (.int (v3))], [.int (r200)], h) = _
  refine e_aload_n f306_961 rfl ?_
  refine e_aload_n f306_962 rfl ?_
  refine e_iload_n f306_963 rfl ?_
  refine e_iconst (v := 1) f306_964 (by decide) ?_
  refine e_iadd f306_965 ?_
  by_cases hg202 : ((v3) + (1)) < (0 : Int32) ∨ hN (h) (1) ≤ ((v3) + (1)).toNatClampNeg
  · rw [if_pos hg202] at hp; cases hp
  rw [if_neg hg202] at hp
  refine e_iaload f306_966 (Or.inr (WF.x w 1 (by decide))) rfl hg202 ?_
  refine e_aload_n f306_967 rfl ?_
  refine e_iload_n f306_968 rfl ?_
  refine e_iconst (v := 2) f306_969 (by decide) ?_
  refine e_iadd f306_970 ?_
  by_cases hg203 : ((v3) + (2)) < (0 : Int32) ∨ hN (h) (1) ≤ ((v3) + (2)).toNatClampNeg
  · rw [if_pos hg203] at hp; cases hp
  rw [if_neg hg203] at hp
  refine e_iaload f306_971 (Or.inr (WF.x w 1 (by decide))) rfl hg203 ?_
  obtain ⟨r204, hr205, hp⟩ := bind_some hp
  try dsimp only at hp
  refine e_callV (st := [.int (r200)]) (o := 86) (as := [.int (hI (h) (1) ((v3) + (1)).toNatClampNeg), .int (hI (h) (1) ((v3) + (2)).toNatClampNeg)]) f306_972 (by decide) rfl rfl (Nat.le_of_ble_eq_true rfl) (WF.t w 86 (by decide)) (Nat.le_of_ble_eq_true rfl) (p224_ok (d + 63) (h) w (hI (h) (1) ((v3) + (1)).toNatClampNeg) (hI (h) (1) ((v3) + (2)).toNatClampNeg) r204 hr205) ?_
  show ex _ 306 (975, [some (.ref (1)), some (.ref (32)), some (.ref (86)), some (.int (v3))], [.int (r204), .int (r200)], h) = _
  by_cases hc206 : (r200) = ((r204) : Int32)
  · rw [if_pos hc206] at hp
    refine e_icmp_eq_t f306_975 hc206 ?_
    refine ex_weak (ls := [some (.ref (1)), some (.ref (32)), some (.ref (86)), some (.int (v3))]) (le2_ok ⟨Or.inr rfl, Or.inr rfl, Or.inr rfl, Or.inr rfl, trivial⟩) ?_
    exact p306_j2120_ok d F (K18) (hK18) (h) (w) (v3) _ hp
  · rw [if_neg hc206] at hp
    refine e_icmp_eq_f f306_975 hc206 ?_
    refine e_iconst (v := 0) f306_978 (by decide) ?_
    have hp := Option.some.inj hp
    subst hp
    exact e_ireturn f306_979 (by decide)
set_option maxRecDepth 100000 in
set_option maxHeartbeats 4000000 in
theorem p306_lb20_ok (d : Nat) (F : Nat) (K18 : HS → Int32 → Option (Int32 × HS)) (hK18 : ∀ (h : HS) (w : WF h) (u3 : Int32) (r : Int32 × HS), K18 h u3 = some r → ex (d + 66) 306 (18, [some (.ref (1)), some (.ref (32)), some (.ref (86)), some (.int (u3))], [], h) = some (some (.int (r.1)), r.2)) (h : HS) (w : WF h) (v3 : Int32) (r : Int32 × HS) (hp : lb20 F K18 h v3 = some r) : ex (d + 66) 306 (980, [some (.ref (1)), some (.ref (32)), some (.ref (86)), some (.int (v3))], [], h) = some (some (.int (r.1)), r.2) := by
  unfold lb20 at hp
  refine e_aload_n f306_980 rfl ?_
  refine e_aload_n f306_981 rfl ?_
  refine e_iload_n f306_982 rfl ?_
  refine e_iconst (v := 1) f306_983 (by decide) ?_
  refine e_iadd f306_984 ?_
  by_cases hg208 : ((v3) + (1)) < (0 : Int32) ∨ hN (h) (1) ≤ ((v3) + (1)).toNatClampNeg
  · rw [if_pos hg208] at hp; cases hp
  rw [if_neg hg208] at hp
  refine e_iaload f306_985 (Or.inr (WF.x w 1 (by decide))) rfl hg208 ?_
  refine e_aload_n f306_986 rfl ?_
  refine e_iload_n f306_987 rfl ?_
  refine e_iconst (v := 2) f306_988 (by decide) ?_
  refine e_iadd f306_989 ?_
  by_cases hg209 : ((v3) + (2)) < (0 : Int32) ∨ hN (h) (1) ≤ ((v3) + (2)).toNatClampNeg
  · rw [if_pos hg209] at hp; cases hp
  rw [if_neg hg209] at hp
  refine e_iaload f306_990 (Or.inr (WF.x w 1 (by decide))) rfl hg209 ?_
  refine e_aload_n f306_991 rfl ?_
  refine e_iload_n f306_992 rfl ?_
  refine e_iconst (v := 3) f306_993 (by decide) ?_
  refine e_iadd f306_994 ?_
  by_cases hg210 : ((v3) + (3)) < (0 : Int32) ∨ hN (h) (1) ≤ ((v3) + (3)).toNatClampNeg
  · rw [if_pos hg210] at hp; cases hp
  rw [if_neg hg210] at hp
  refine e_iaload f306_995 (Or.inr (WF.x w 1 (by decide))) rfl hg210 ?_
  obtain ⟨r211, hr212, hp⟩ := bind_some hp
  try dsimp only at hp
  refine e_callV (st := []) (o := 32) (as := [.int (hI (h) (1) ((v3) + (1)).toNatClampNeg), .int (hI (h) (1) ((v3) + (2)).toNatClampNeg), .int (hI (h) (1) ((v3) + (3)).toNatClampNeg)]) f306_996 (by decide) rfl rfl (Nat.le_of_ble_eq_true rfl) (WF.t w 32 (by decide)) (Nat.le_of_ble_eq_true rfl) (p134_ok (d + 62) F (h) w (hI (h) (1) ((v3) + (1)).toNatClampNeg) (hI (h) (1) ((v3) + (2)).toNatClampNeg) (hI (h) (1) ((v3) + (3)).toNatClampNeg) r211 hr212) ?_
  show ex _ 306 (999, [some (.ref (1)), some (.ref (32)), some (.ref (86)), some (.int (v3))], [.int (r211)], h) = _
  refine e_aload_n f306_999 rfl ?_
  refine e_aload_n f306_1000 rfl ?_
  refine e_iload_n f306_1001 rfl ?_
  refine e_iconst (v := 1) f306_1002 (by decide) ?_
  refine e_iadd f306_1003 ?_
  by_cases hg213 : ((v3) + (1)) < (0 : Int32) ∨ hN (h) (1) ≤ ((v3) + (1)).toNatClampNeg
  · rw [if_pos hg213] at hp; cases hp
  rw [if_neg hg213] at hp
  refine e_iaload f306_1004 (Or.inr (WF.x w 1 (by decide))) rfl hg213 ?_
  refine e_aload_n f306_1005 rfl ?_
  refine e_iload_n f306_1006 rfl ?_
  refine e_iconst (v := 2) f306_1007 (by decide) ?_
  refine e_iadd f306_1008 ?_
  by_cases hg214 : ((v3) + (2)) < (0 : Int32) ∨ hN (h) (1) ≤ ((v3) + (2)).toNatClampNeg
  · rw [if_pos hg214] at hp; cases hp
  rw [if_neg hg214] at hp
  refine e_iaload f306_1009 (Or.inr (WF.x w 1 (by decide))) rfl hg214 ?_
  refine e_aload_n f306_1010 rfl ?_
  refine e_iload_n f306_1011 rfl ?_
  refine e_iconst (v := 3) f306_1012 (by decide) ?_
  refine e_iadd f306_1013 ?_
  by_cases hg215 : ((v3) + (3)) < (0 : Int32) ∨ hN (h) (1) ≤ ((v3) + (3)).toNatClampNeg
  · rw [if_pos hg215] at hp; cases hp
  rw [if_neg hg215] at hp
  refine e_iaload f306_1014 (Or.inr (WF.x w 1 (by decide))) rfl hg215 ?_
  obtain ⟨r216, hr217, hp⟩ := bind_some hp
  try dsimp only at hp
  refine e_callV (st := [.int (r211)]) (o := 86) (as := [.int (hI (h) (1) ((v3) + (1)).toNatClampNeg), .int (hI (h) (1) ((v3) + (2)).toNatClampNeg), .int (hI (h) (1) ((v3) + (3)).toNatClampNeg)]) f306_1015 (by decide) rfl rfl (Nat.le_of_ble_eq_true rfl) (WF.t w 86 (by decide)) (Nat.le_of_ble_eq_true rfl) (p227_ok (d + 61) F (h) w (hI (h) (1) ((v3) + (1)).toNatClampNeg) (hI (h) (1) ((v3) + (2)).toNatClampNeg) (hI (h) (1) ((v3) + (3)).toNatClampNeg) r216 hr217) ?_
  show ex _ 306 (1018, [some (.ref (1)), some (.ref (32)), some (.ref (86)), some (.int (v3))], [.int (r216), .int (r211)], h) = _
  by_cases hc218 : (r211) = ((r216) : Int32)
  · rw [if_pos hc218] at hp
    refine e_icmp_eq_t f306_1018 hc218 ?_
    refine ex_weak (ls := [some (.ref (1)), some (.ref (32)), some (.ref (86)), some (.int (v3))]) (le2_ok ⟨Or.inr rfl, Or.inr rfl, Or.inr rfl, Or.inr rfl, trivial⟩) ?_
    exact p306_j2120_ok d F (K18) (hK18) (h) (w) (v3) _ hp
  · rw [if_neg hc218] at hp
    refine e_icmp_eq_f f306_1018 hc218 ?_
    refine e_iconst (v := 0) f306_1021 (by decide) ?_
    have hp := Option.some.inj hp
    subst hp
    exact e_ireturn f306_1022 (by decide)
set_option maxRecDepth 100000 in
set_option maxHeartbeats 4000000 in
theorem p306_lb21_ok (d : Nat) (F : Nat) (K18 : HS → Int32 → Option (Int32 × HS)) (hK18 : ∀ (h : HS) (w : WF h) (u3 : Int32) (r : Int32 × HS), K18 h u3 = some r → ex (d + 66) 306 (18, [some (.ref (1)), some (.ref (32)), some (.ref (86)), some (.int (u3))], [], h) = some (some (.int (r.1)), r.2)) (h : HS) (w : WF h) (v3 : Int32) (r : Int32 × HS) (hp : lb21 F K18 h v3 = some r) : ex (d + 66) 306 (1023, [some (.ref (1)), some (.ref (32)), some (.ref (86)), some (.int (v3))], [], h) = some (some (.int (r.1)), r.2) := by
  unfold lb21 at hp
  refine e_aload_n f306_1023 rfl ?_
  refine e_aload_n f306_1024 rfl ?_
  refine e_iload_n f306_1025 rfl ?_
  refine e_iconst (v := 1) f306_1026 (by decide) ?_
  refine e_iadd f306_1027 ?_
  by_cases hg220 : ((v3) + (1)) < (0 : Int32) ∨ hN (h) (1) ≤ ((v3) + (1)).toNatClampNeg
  · rw [if_pos hg220] at hp; cases hp
  rw [if_neg hg220] at hp
  refine e_iaload f306_1028 (Or.inr (WF.x w 1 (by decide))) rfl hg220 ?_
  refine e_aload_n f306_1029 rfl ?_
  refine e_iload_n f306_1030 rfl ?_
  refine e_iconst (v := 2) f306_1031 (by decide) ?_
  refine e_iadd f306_1032 ?_
  by_cases hg221 : ((v3) + (2)) < (0 : Int32) ∨ hN (h) (1) ≤ ((v3) + (2)).toNatClampNeg
  · rw [if_pos hg221] at hp; cases hp
  rw [if_neg hg221] at hp
  refine e_iaload f306_1033 (Or.inr (WF.x w 1 (by decide))) rfl hg221 ?_
  refine e_aload_n f306_1034 rfl ?_
  refine e_iload_n f306_1035 rfl ?_
  refine e_iconst (v := 3) f306_1036 (by decide) ?_
  refine e_iadd f306_1037 ?_
  by_cases hg222 : ((v3) + (3)) < (0 : Int32) ∨ hN (h) (1) ≤ ((v3) + (3)).toNatClampNeg
  · rw [if_pos hg222] at hp; cases hp
  rw [if_neg hg222] at hp
  refine e_iaload f306_1038 (Or.inr (WF.x w 1 (by decide))) rfl hg222 ?_
  obtain ⟨r223, hr224, hp⟩ := bind_some hp
  try dsimp only at hp
  refine e_callV (st := []) (o := 32) (as := [.int (hI (h) (1) ((v3) + (1)).toNatClampNeg), .int (hI (h) (1) ((v3) + (2)).toNatClampNeg), .int (hI (h) (1) ((v3) + (3)).toNatClampNeg)]) f306_1039 (by decide) rfl rfl (Nat.le_of_ble_eq_true rfl) (WF.t w 32 (by decide)) (Nat.le_of_ble_eq_true rfl) (p135_ok (d + 62) F (h) w (hI (h) (1) ((v3) + (1)).toNatClampNeg) (hI (h) (1) ((v3) + (2)).toNatClampNeg) (hI (h) (1) ((v3) + (3)).toNatClampNeg) r223 hr224) ?_
  show ex _ 306 (1042, [some (.ref (1)), some (.ref (32)), some (.ref (86)), some (.int (v3))], [.int (r223)], h) = _
  refine e_aload_n f306_1042 rfl ?_
  refine e_aload_n f306_1043 rfl ?_
  refine e_iload_n f306_1044 rfl ?_
  refine e_iconst (v := 1) f306_1045 (by decide) ?_
  refine e_iadd f306_1046 ?_
  by_cases hg225 : ((v3) + (1)) < (0 : Int32) ∨ hN (h) (1) ≤ ((v3) + (1)).toNatClampNeg
  · rw [if_pos hg225] at hp; cases hp
  rw [if_neg hg225] at hp
  refine e_iaload f306_1047 (Or.inr (WF.x w 1 (by decide))) rfl hg225 ?_
  refine e_aload_n f306_1048 rfl ?_
  refine e_iload_n f306_1049 rfl ?_
  refine e_iconst (v := 2) f306_1050 (by decide) ?_
  refine e_iadd f306_1051 ?_
  by_cases hg226 : ((v3) + (2)) < (0 : Int32) ∨ hN (h) (1) ≤ ((v3) + (2)).toNatClampNeg
  · rw [if_pos hg226] at hp; cases hp
  rw [if_neg hg226] at hp
  refine e_iaload f306_1052 (Or.inr (WF.x w 1 (by decide))) rfl hg226 ?_
  refine e_aload_n f306_1053 rfl ?_
  refine e_iload_n f306_1054 rfl ?_
  refine e_iconst (v := 3) f306_1055 (by decide) ?_
  refine e_iadd f306_1056 ?_
  by_cases hg227 : ((v3) + (3)) < (0 : Int32) ∨ hN (h) (1) ≤ ((v3) + (3)).toNatClampNeg
  · rw [if_pos hg227] at hp; cases hp
  rw [if_neg hg227] at hp
  refine e_iaload f306_1057 (Or.inr (WF.x w 1 (by decide))) rfl hg227 ?_
  obtain ⟨r228, hr229, hp⟩ := bind_some hp
  try dsimp only at hp
  refine e_callV (st := [.int (r223)]) (o := 86) (as := [.int (hI (h) (1) ((v3) + (1)).toNatClampNeg), .int (hI (h) (1) ((v3) + (2)).toNatClampNeg), .int (hI (h) (1) ((v3) + (3)).toNatClampNeg)]) f306_1058 (by decide) rfl rfl (Nat.le_of_ble_eq_true rfl) (WF.t w 86 (by decide)) (Nat.le_of_ble_eq_true rfl) (p229_ok (d + 60) F (h) w (hI (h) (1) ((v3) + (1)).toNatClampNeg) (hI (h) (1) ((v3) + (2)).toNatClampNeg) (hI (h) (1) ((v3) + (3)).toNatClampNeg) r228 hr229) ?_
  show ex _ 306 (1061, [some (.ref (1)), some (.ref (32)), some (.ref (86)), some (.int (v3))], [.int (r228), .int (r223)], h) = _
  by_cases hc230 : (r223) = ((r228) : Int32)
  · rw [if_pos hc230] at hp
    refine e_icmp_eq_t f306_1061 hc230 ?_
    refine ex_weak (ls := [some (.ref (1)), some (.ref (32)), some (.ref (86)), some (.int (v3))]) (le2_ok ⟨Or.inr rfl, Or.inr rfl, Or.inr rfl, Or.inr rfl, trivial⟩) ?_
    exact p306_j2120_ok d F (K18) (hK18) (h) (w) (v3) _ hp
  · rw [if_neg hc230] at hp
    refine e_icmp_eq_f f306_1061 hc230 ?_
    refine e_iconst (v := 0) f306_1064 (by decide) ?_
    have hp := Option.some.inj hp
    subst hp
    exact e_ireturn f306_1065 (by decide)
set_option maxRecDepth 100000 in
set_option maxHeartbeats 4000000 in
theorem p306_lb22_ok (d : Nat) (F : Nat) (K18 : HS → Int32 → Option (Int32 × HS)) (hK18 : ∀ (h : HS) (w : WF h) (u3 : Int32) (r : Int32 × HS), K18 h u3 = some r → ex (d + 66) 306 (18, [some (.ref (1)), some (.ref (32)), some (.ref (86)), some (.int (u3))], [], h) = some (some (.int (r.1)), r.2)) (h : HS) (w : WF h) (v3 : Int32) (r : Int32 × HS) (hp : lb22 F K18 h v3 = some r) : ex (d + 66) 306 (1066, [some (.ref (1)), some (.ref (32)), some (.ref (86)), some (.int (v3))], [], h) = some (some (.int (r.1)), r.2) := by
  unfold lb22 at hp
  refine e_aload_n f306_1066 rfl ?_
  refine e_aload_n f306_1067 rfl ?_
  refine e_iload_n f306_1068 rfl ?_
  refine e_iconst (v := 1) f306_1069 (by decide) ?_
  refine e_iadd f306_1070 ?_
  by_cases hg232 : ((v3) + (1)) < (0 : Int32) ∨ hN (h) (1) ≤ ((v3) + (1)).toNatClampNeg
  · rw [if_pos hg232] at hp; cases hp
  rw [if_neg hg232] at hp
  refine e_iaload f306_1071 (Or.inr (WF.x w 1 (by decide))) rfl hg232 ?_
  refine e_aload_n f306_1072 rfl ?_
  refine e_iload_n f306_1073 rfl ?_
  refine e_iconst (v := 2) f306_1074 (by decide) ?_
  refine e_iadd f306_1075 ?_
  by_cases hg233 : ((v3) + (2)) < (0 : Int32) ∨ hN (h) (1) ≤ ((v3) + (2)).toNatClampNeg
  · rw [if_pos hg233] at hp; cases hp
  rw [if_neg hg233] at hp
  refine e_iaload f306_1076 (Or.inr (WF.x w 1 (by decide))) rfl hg233 ?_
  obtain ⟨r234, hr235, hp⟩ := bind_some hp
  try dsimp only at hp
  refine e_callV (st := []) (o := 32) (as := [.int (hI (h) (1) ((v3) + (1)).toNatClampNeg), .int (hI (h) (1) ((v3) + (2)).toNatClampNeg)]) f306_1077 (by decide) rfl rfl (Nat.le_of_ble_eq_true rfl) (WF.t w 32 (by decide)) (Nat.le_of_ble_eq_true rfl) (p136_ok (d + 61) F (h) w (hI (h) (1) ((v3) + (1)).toNatClampNeg) (hI (h) (1) ((v3) + (2)).toNatClampNeg) r234 hr235) ?_
  show ex _ 306 (1080, [some (.ref (1)), some (.ref (32)), some (.ref (86)), some (.int (v3))], [.int (r234)], h) = _
  refine e_aload_n f306_1080 rfl ?_
  refine e_aload_n f306_1081 rfl ?_
  refine e_iload_n f306_1082 rfl ?_
  refine e_iconst (v := 1) f306_1083 (by decide) ?_
  refine e_iadd f306_1084 ?_
  by_cases hg236 : ((v3) + (1)) < (0 : Int32) ∨ hN (h) (1) ≤ ((v3) + (1)).toNatClampNeg
  · rw [if_pos hg236] at hp; cases hp
  rw [if_neg hg236] at hp
  refine e_iaload f306_1085 (Or.inr (WF.x w 1 (by decide))) rfl hg236 ?_
  refine e_aload_n f306_1086 rfl ?_
  refine e_iload_n f306_1087 rfl ?_
  refine e_iconst (v := 2) f306_1088 (by decide) ?_
  refine e_iadd f306_1089 ?_
  by_cases hg237 : ((v3) + (2)) < (0 : Int32) ∨ hN (h) (1) ≤ ((v3) + (2)).toNatClampNeg
  · rw [if_pos hg237] at hp; cases hp
  rw [if_neg hg237] at hp
  refine e_iaload f306_1090 (Or.inr (WF.x w 1 (by decide))) rfl hg237 ?_
  obtain ⟨r238, hr239, hp⟩ := bind_some hp
  try dsimp only at hp
  refine e_callV (st := [.int (r234)]) (o := 86) (as := [.int (hI (h) (1) ((v3) + (1)).toNatClampNeg), .int (hI (h) (1) ((v3) + (2)).toNatClampNeg)]) f306_1091 (by decide) rfl rfl (Nat.le_of_ble_eq_true rfl) (WF.t w 86 (by decide)) (Nat.le_of_ble_eq_true rfl) (p232_ok (d + 59) F (h) w (hI (h) (1) ((v3) + (1)).toNatClampNeg) (hI (h) (1) ((v3) + (2)).toNatClampNeg) r238 hr239) ?_
  show ex _ 306 (1094, [some (.ref (1)), some (.ref (32)), some (.ref (86)), some (.int (v3))], [.int (r238), .int (r234)], h) = _
  by_cases hc240 : (r234) = ((r238) : Int32)
  · rw [if_pos hc240] at hp
    refine e_icmp_eq_t f306_1094 hc240 ?_
    refine ex_weak (ls := [some (.ref (1)), some (.ref (32)), some (.ref (86)), some (.int (v3))]) (le2_ok ⟨Or.inr rfl, Or.inr rfl, Or.inr rfl, Or.inr rfl, trivial⟩) ?_
    exact p306_j2120_ok d F (K18) (hK18) (h) (w) (v3) _ hp
  · rw [if_neg hc240] at hp
    refine e_icmp_eq_f f306_1094 hc240 ?_
    refine e_iconst (v := 0) f306_1097 (by decide) ?_
    have hp := Option.some.inj hp
    subst hp
    exact e_ireturn f306_1098 (by decide)
set_option maxRecDepth 100000 in
set_option maxHeartbeats 4000000 in
theorem p306_lb23_ok (d : Nat) (F : Nat) (K18 : HS → Int32 → Option (Int32 × HS)) (hK18 : ∀ (h : HS) (w : WF h) (u3 : Int32) (r : Int32 × HS), K18 h u3 = some r → ex (d + 66) 306 (18, [some (.ref (1)), some (.ref (32)), some (.ref (86)), some (.int (u3))], [], h) = some (some (.int (r.1)), r.2)) (h : HS) (w : WF h) (v3 : Int32) (r : Int32 × HS) (hp : lb23 F K18 h v3 = some r) : ex (d + 66) 306 (1099, [some (.ref (1)), some (.ref (32)), some (.ref (86)), some (.int (v3))], [], h) = some (some (.int (r.1)), r.2) := by
  unfold lb23 at hp
  refine e_aload_n f306_1099 rfl ?_
  refine e_aload_n f306_1100 rfl ?_
  refine e_iload_n f306_1101 rfl ?_
  refine e_iconst (v := 1) f306_1102 (by decide) ?_
  refine e_iadd f306_1103 ?_
  by_cases hg242 : ((v3) + (1)) < (0 : Int32) ∨ hN (h) (1) ≤ ((v3) + (1)).toNatClampNeg
  · rw [if_pos hg242] at hp; cases hp
  rw [if_neg hg242] at hp
  refine e_iaload f306_1104 (Or.inr (WF.x w 1 (by decide))) rfl hg242 ?_
  obtain ⟨r243, hr244, hp⟩ := bind_some hp
  try dsimp only at hp
  refine e_callV (st := []) (o := 32) (as := [.int (hI (h) (1) ((v3) + (1)).toNatClampNeg)]) f306_1105 (by decide) rfl rfl (Nat.le_of_ble_eq_true rfl) (WF.t w 32 (by decide)) (Nat.le_of_ble_eq_true rfl) (p137_ok (d + 61) F (h) w (hI (h) (1) ((v3) + (1)).toNatClampNeg) r243 hr244) ?_
  show ex _ 306 (1108, [some (.ref (1)), some (.ref (32)), some (.ref (86)), some (.int (v3))], [.int (r243.1)], r243.2) = _
  refine e_aload_n f306_1108 rfl ?_
  refine e_aload_n f306_1109 rfl ?_
  refine e_iload_n f306_1110 rfl ?_
  refine e_iconst (v := 1) f306_1111 (by decide) ?_
  refine e_iadd f306_1112 ?_
  by_cases hg245 : ((v3) + (1)) < (0 : Int32) ∨ hN (r243.2) (1) ≤ ((v3) + (1)).toNatClampNeg
  · rw [if_pos hg245] at hp; cases hp
  rw [if_neg hg245] at hp
  refine e_iaload f306_1113 (Or.inr (WF.x (p137_w F (h) w (hI (h) (1) ((v3) + (1)).toNatClampNeg)  r243 hr244) 1 (by decide))) rfl hg245 ?_
  obtain ⟨r246, hr247, hp⟩ := bind_some hp
  try dsimp only at hp
  refine e_callV (st := [.int (r243.1)]) (o := 86) (as := [.int (hI (r243.2) (1) ((v3) + (1)).toNatClampNeg)]) f306_1114 (by decide) rfl rfl (Nat.le_of_ble_eq_true rfl) (WF.t (p137_w F (h) w (hI (h) (1) ((v3) + (1)).toNatClampNeg)  r243 hr244) 86 (by decide)) (Nat.le_of_ble_eq_true rfl) (p234_ok (d + 61) F (r243.2) (p137_w F (h) w (hI (h) (1) ((v3) + (1)).toNatClampNeg)  r243 hr244) (hI (r243.2) (1) ((v3) + (1)).toNatClampNeg) r246 hr247) ?_
  show ex _ 306 (1117, [some (.ref (1)), some (.ref (32)), some (.ref (86)), some (.int (v3))], [.int (r246.1), .int (r243.1)], r246.2) = _
  by_cases hc248 : (r243.1) = ((r246.1) : Int32)
  · rw [if_pos hc248] at hp
    refine e_icmp_eq_t f306_1117 hc248 ?_
    refine ex_weak (ls := [some (.ref (1)), some (.ref (32)), some (.ref (86)), some (.int (v3))]) (le2_ok ⟨Or.inr rfl, Or.inr rfl, Or.inr rfl, Or.inr rfl, trivial⟩) ?_
    exact p306_j2120_ok d F (K18) (hK18) (r246.2) ((p234_w F (r243.2) (p137_w F (h) w (hI (h) (1) ((v3) + (1)).toNatClampNeg)  r243 hr244) (hI (r243.2) (1) ((v3) + (1)).toNatClampNeg)  r246 hr247)) (v3) _ hp
  · rw [if_neg hc248] at hp
    refine e_icmp_eq_f f306_1117 hc248 ?_
    refine e_iconst (v := 0) f306_1120 (by decide) ?_
    have hp := Option.some.inj hp
    subst hp
    exact e_ireturn f306_1121 (by decide)
set_option maxRecDepth 100000 in
set_option maxHeartbeats 4000000 in
theorem p306_lb24_ok (d : Nat) (F : Nat) (K18 : HS → Int32 → Option (Int32 × HS)) (hK18 : ∀ (h : HS) (w : WF h) (u3 : Int32) (r : Int32 × HS), K18 h u3 = some r → ex (d + 66) 306 (18, [some (.ref (1)), some (.ref (32)), some (.ref (86)), some (.int (u3))], [], h) = some (some (.int (r.1)), r.2)) (h : HS) (w : WF h) (v3 : Int32) (r : Int32 × HS) (hp : lb24 F K18 h v3 = some r) : ex (d + 66) 306 (1122, [some (.ref (1)), some (.ref (32)), some (.ref (86)), some (.int (v3))], [], h) = some (some (.int (r.1)), r.2) := by
  unfold lb24 at hp
  refine e_aload_n f306_1122 rfl ?_
  refine e_aload_n f306_1123 rfl ?_
  refine e_iload_n f306_1124 rfl ?_
  refine e_iconst (v := 1) f306_1125 (by decide) ?_
  refine e_iadd f306_1126 ?_
  by_cases hg250 : ((v3) + (1)) < (0 : Int32) ∨ hN (h) (1) ≤ ((v3) + (1)).toNatClampNeg
  · rw [if_pos hg250] at hp; cases hp
  rw [if_neg hg250] at hp
  refine e_iaload f306_1127 (Or.inr (WF.x w 1 (by decide))) rfl hg250 ?_
  refine e_aload_n f306_1128 rfl ?_
  refine e_iload_n f306_1129 rfl ?_
  refine e_iconst (v := 2) f306_1130 (by decide) ?_
  refine e_iadd f306_1131 ?_
  by_cases hg251 : ((v3) + (2)) < (0 : Int32) ∨ hN (h) (1) ≤ ((v3) + (2)).toNatClampNeg
  · rw [if_pos hg251] at hp; cases hp
  rw [if_neg hg251] at hp
  refine e_iaload f306_1132 (Or.inr (WF.x w 1 (by decide))) rfl hg251 ?_
  refine e_aload_n f306_1133 rfl ?_
  refine e_iload_n f306_1134 rfl ?_
  refine e_iconst (v := 3) f306_1135 (by decide) ?_
  refine e_iadd f306_1136 ?_
  by_cases hg252 : ((v3) + (3)) < (0 : Int32) ∨ hN (h) (1) ≤ ((v3) + (3)).toNatClampNeg
  · rw [if_pos hg252] at hp; cases hp
  rw [if_neg hg252] at hp
  refine e_iaload f306_1137 (Or.inr (WF.x w 1 (by decide))) rfl hg252 ?_
  obtain ⟨r253, hr254, hp⟩ := bind_some hp
  try dsimp only at hp
  refine e_callV (st := []) (o := 32) (as := [.int (hI (h) (1) ((v3) + (1)).toNatClampNeg), .int (hI (h) (1) ((v3) + (2)).toNatClampNeg), .int (hI (h) (1) ((v3) + (3)).toNatClampNeg)]) f306_1138 (by decide) rfl rfl (Nat.le_of_ble_eq_true rfl) (WF.t w 32 (by decide)) (Nat.le_of_ble_eq_true rfl) (p138_ok (d + 62) F (h) w (hI (h) (1) ((v3) + (1)).toNatClampNeg) (hI (h) (1) ((v3) + (2)).toNatClampNeg) (hI (h) (1) ((v3) + (3)).toNatClampNeg) r253 hr254) ?_
  show ex _ 306 (1141, [some (.ref (1)), some (.ref (32)), some (.ref (86)), some (.int (v3))], [.int (r253)], h) = _
  refine e_aload_n f306_1141 rfl ?_
  refine e_aload_n f306_1142 rfl ?_
  refine e_iload_n f306_1143 rfl ?_
  refine e_iconst (v := 1) f306_1144 (by decide) ?_
  refine e_iadd f306_1145 ?_
  by_cases hg255 : ((v3) + (1)) < (0 : Int32) ∨ hN (h) (1) ≤ ((v3) + (1)).toNatClampNeg
  · rw [if_pos hg255] at hp; cases hp
  rw [if_neg hg255] at hp
  refine e_iaload f306_1146 (Or.inr (WF.x w 1 (by decide))) rfl hg255 ?_
  refine e_aload_n f306_1147 rfl ?_
  refine e_iload_n f306_1148 rfl ?_
  refine e_iconst (v := 2) f306_1149 (by decide) ?_
  refine e_iadd f306_1150 ?_
  by_cases hg256 : ((v3) + (2)) < (0 : Int32) ∨ hN (h) (1) ≤ ((v3) + (2)).toNatClampNeg
  · rw [if_pos hg256] at hp; cases hp
  rw [if_neg hg256] at hp
  refine e_iaload f306_1151 (Or.inr (WF.x w 1 (by decide))) rfl hg256 ?_
  refine e_aload_n f306_1152 rfl ?_
  refine e_iload_n f306_1153 rfl ?_
  refine e_iconst (v := 3) f306_1154 (by decide) ?_
  refine e_iadd f306_1155 ?_
  by_cases hg257 : ((v3) + (3)) < (0 : Int32) ∨ hN (h) (1) ≤ ((v3) + (3)).toNatClampNeg
  · rw [if_pos hg257] at hp; cases hp
  rw [if_neg hg257] at hp
  refine e_iaload f306_1156 (Or.inr (WF.x w 1 (by decide))) rfl hg257 ?_
  obtain ⟨r258, hr259, hp⟩ := bind_some hp
  try dsimp only at hp
  refine e_callV (st := [.int (r253)]) (o := 86) (as := [.int (hI (h) (1) ((v3) + (1)).toNatClampNeg), .int (hI (h) (1) ((v3) + (2)).toNatClampNeg), .int (hI (h) (1) ((v3) + (3)).toNatClampNeg)]) f306_1157 (by decide) rfl rfl (Nat.le_of_ble_eq_true rfl) (WF.t w 86 (by decide)) (Nat.le_of_ble_eq_true rfl) (p237_ok (d + 62) F (h) w (hI (h) (1) ((v3) + (1)).toNatClampNeg) (hI (h) (1) ((v3) + (2)).toNatClampNeg) (hI (h) (1) ((v3) + (3)).toNatClampNeg) r258 hr259) ?_
  show ex _ 306 (1160, [some (.ref (1)), some (.ref (32)), some (.ref (86)), some (.int (v3))], [.int (r258), .int (r253)], h) = _
  by_cases hc260 : (r253) = ((r258) : Int32)
  · rw [if_pos hc260] at hp
    refine e_icmp_eq_t f306_1160 hc260 ?_
    refine ex_weak (ls := [some (.ref (1)), some (.ref (32)), some (.ref (86)), some (.int (v3))]) (le2_ok ⟨Or.inr rfl, Or.inr rfl, Or.inr rfl, Or.inr rfl, trivial⟩) ?_
    exact p306_j2120_ok d F (K18) (hK18) (h) (w) (v3) _ hp
  · rw [if_neg hc260] at hp
    refine e_icmp_eq_f f306_1160 hc260 ?_
    refine e_iconst (v := 0) f306_1163 (by decide) ?_
    have hp := Option.some.inj hp
    subst hp
    exact e_ireturn f306_1164 (by decide)
set_option maxRecDepth 100000 in
set_option maxHeartbeats 4000000 in
theorem p306_lb25_ok (d : Nat) (F : Nat) (K18 : HS → Int32 → Option (Int32 × HS)) (hK18 : ∀ (h : HS) (w : WF h) (u3 : Int32) (r : Int32 × HS), K18 h u3 = some r → ex (d + 66) 306 (18, [some (.ref (1)), some (.ref (32)), some (.ref (86)), some (.int (u3))], [], h) = some (some (.int (r.1)), r.2)) (h : HS) (w : WF h) (v3 : Int32) (r : Int32 × HS) (hp : lb25 F K18 h v3 = some r) : ex (d + 66) 306 (1165, [some (.ref (1)), some (.ref (32)), some (.ref (86)), some (.int (v3))], [], h) = some (some (.int (r.1)), r.2) := by
  unfold lb25 at hp
  refine e_aload_n f306_1165 rfl ?_
  refine e_aload_n f306_1166 rfl ?_
  refine e_iload_n f306_1167 rfl ?_
  refine e_iconst (v := 1) f306_1168 (by decide) ?_
  refine e_iadd f306_1169 ?_
  by_cases hg262 : ((v3) + (1)) < (0 : Int32) ∨ hN (h) (1) ≤ ((v3) + (1)).toNatClampNeg
  · rw [if_pos hg262] at hp; cases hp
  rw [if_neg hg262] at hp
  refine e_iaload f306_1170 (Or.inr (WF.x w 1 (by decide))) rfl hg262 ?_
  refine e_aload_n f306_1171 rfl ?_
  refine e_iload_n f306_1172 rfl ?_
  refine e_iconst (v := 2) f306_1173 (by decide) ?_
  refine e_iadd f306_1174 ?_
  by_cases hg263 : ((v3) + (2)) < (0 : Int32) ∨ hN (h) (1) ≤ ((v3) + (2)).toNatClampNeg
  · rw [if_pos hg263] at hp; cases hp
  rw [if_neg hg263] at hp
  refine e_iaload f306_1175 (Or.inr (WF.x w 1 (by decide))) rfl hg263 ?_
  obtain ⟨r264, hr265, hp⟩ := bind_some hp
  try dsimp only at hp
  refine e_callV (st := []) (o := 32) (as := [.int (hI (h) (1) ((v3) + (1)).toNatClampNeg), .int (hI (h) (1) ((v3) + (2)).toNatClampNeg)]) f306_1176 (by decide) rfl rfl (Nat.le_of_ble_eq_true rfl) (WF.t w 32 (by decide)) (Nat.le_of_ble_eq_true rfl) (p139_ok (d + 64) (h) w (hI (h) (1) ((v3) + (1)).toNatClampNeg) (hI (h) (1) ((v3) + (2)).toNatClampNeg) r264 hr265) ?_
  show ex _ 306 (1179, [some (.ref (1)), some (.ref (32)), some (.ref (86)), some (.int (v3))], [.int (r264.1)], r264.2) = _
  refine e_aload_n f306_1179 rfl ?_
  refine e_aload_n f306_1180 rfl ?_
  refine e_iload_n f306_1181 rfl ?_
  refine e_iconst (v := 1) f306_1182 (by decide) ?_
  refine e_iadd f306_1183 ?_
  by_cases hg266 : ((v3) + (1)) < (0 : Int32) ∨ hN (r264.2) (1) ≤ ((v3) + (1)).toNatClampNeg
  · rw [if_pos hg266] at hp; cases hp
  rw [if_neg hg266] at hp
  refine e_iaload f306_1184 (Or.inr (WF.x (p139_w (h) w (hI (h) (1) ((v3) + (1)).toNatClampNeg) (hI (h) (1) ((v3) + (2)).toNatClampNeg)  r264 hr265) 1 (by decide))) rfl hg266 ?_
  refine e_aload_n f306_1185 rfl ?_
  refine e_iload_n f306_1186 rfl ?_
  refine e_iconst (v := 2) f306_1187 (by decide) ?_
  refine e_iadd f306_1188 ?_
  by_cases hg267 : ((v3) + (2)) < (0 : Int32) ∨ hN (r264.2) (1) ≤ ((v3) + (2)).toNatClampNeg
  · rw [if_pos hg267] at hp; cases hp
  rw [if_neg hg267] at hp
  refine e_iaload f306_1189 (Or.inr (WF.x (p139_w (h) w (hI (h) (1) ((v3) + (1)).toNatClampNeg) (hI (h) (1) ((v3) + (2)).toNatClampNeg)  r264 hr265) 1 (by decide))) rfl hg267 ?_
  obtain ⟨r268, hr269, hp⟩ := bind_some hp
  try dsimp only at hp
  refine e_callV (st := [.int (r264.1)]) (o := 86) (as := [.int (hI (r264.2) (1) ((v3) + (1)).toNatClampNeg), .int (hI (r264.2) (1) ((v3) + (2)).toNatClampNeg)]) f306_1190 (by decide) rfl rfl (Nat.le_of_ble_eq_true rfl) (WF.t (p139_w (h) w (hI (h) (1) ((v3) + (1)).toNatClampNeg) (hI (h) (1) ((v3) + (2)).toNatClampNeg)  r264 hr265) 86 (by decide)) (Nat.le_of_ble_eq_true rfl) (p238_ok (d + 64) (r264.2) (p139_w (h) w (hI (h) (1) ((v3) + (1)).toNatClampNeg) (hI (h) (1) ((v3) + (2)).toNatClampNeg)  r264 hr265) (hI (r264.2) (1) ((v3) + (1)).toNatClampNeg) (hI (r264.2) (1) ((v3) + (2)).toNatClampNeg) r268 hr269) ?_
  show ex _ 306 (1193, [some (.ref (1)), some (.ref (32)), some (.ref (86)), some (.int (v3))], [.int (r268.1), .int (r264.1)], r268.2) = _
  by_cases hc270 : (r264.1) = ((r268.1) : Int32)
  · rw [if_pos hc270] at hp
    refine e_icmp_eq_t f306_1193 hc270 ?_
    refine ex_weak (ls := [some (.ref (1)), some (.ref (32)), some (.ref (86)), some (.int (v3))]) (le2_ok ⟨Or.inr rfl, Or.inr rfl, Or.inr rfl, Or.inr rfl, trivial⟩) ?_
    exact p306_j2120_ok d F (K18) (hK18) (r268.2) ((p238_w (r264.2) (p139_w (h) w (hI (h) (1) ((v3) + (1)).toNatClampNeg) (hI (h) (1) ((v3) + (2)).toNatClampNeg)  r264 hr265) (hI (r264.2) (1) ((v3) + (1)).toNatClampNeg) (hI (r264.2) (1) ((v3) + (2)).toNatClampNeg)  r268 hr269)) (v3) _ hp
  · rw [if_neg hc270] at hp
    refine e_icmp_eq_f f306_1193 hc270 ?_
    refine e_iconst (v := 0) f306_1196 (by decide) ?_
    have hp := Option.some.inj hp
    subst hp
    exact e_ireturn f306_1197 (by decide)
set_option maxRecDepth 100000 in
set_option maxHeartbeats 4000000 in
theorem p306_lb26_ok (d : Nat) (F : Nat) (K18 : HS → Int32 → Option (Int32 × HS)) (hK18 : ∀ (h : HS) (w : WF h) (u3 : Int32) (r : Int32 × HS), K18 h u3 = some r → ex (d + 66) 306 (18, [some (.ref (1)), some (.ref (32)), some (.ref (86)), some (.int (u3))], [], h) = some (some (.int (r.1)), r.2)) (h : HS) (w : WF h) (v3 : Int32) (r : Int32 × HS) (hp : lb26 F K18 h v3 = some r) : ex (d + 66) 306 (1198, [some (.ref (1)), some (.ref (32)), some (.ref (86)), some (.int (v3))], [], h) = some (some (.int (r.1)), r.2) := by
  unfold lb26 at hp
  refine e_aload_n f306_1198 rfl ?_
  refine e_aload_n f306_1199 rfl ?_
  refine e_iload_n f306_1200 rfl ?_
  refine e_iconst (v := 1) f306_1201 (by decide) ?_
  refine e_iadd f306_1202 ?_
  by_cases hg272 : ((v3) + (1)) < (0 : Int32) ∨ hN (h) (1) ≤ ((v3) + (1)).toNatClampNeg
  · rw [if_pos hg272] at hp; cases hp
  rw [if_neg hg272] at hp
  refine e_iaload f306_1203 (Or.inr (WF.x w 1 (by decide))) rfl hg272 ?_
  refine e_aload_n f306_1204 rfl ?_
  refine e_iload_n f306_1205 rfl ?_
  refine e_iconst (v := 2) f306_1206 (by decide) ?_
  refine e_iadd f306_1207 ?_
  by_cases hg273 : ((v3) + (2)) < (0 : Int32) ∨ hN (h) (1) ≤ ((v3) + (2)).toNatClampNeg
  · rw [if_pos hg273] at hp; cases hp
  rw [if_neg hg273] at hp
  refine e_iaload f306_1208 (Or.inr (WF.x w 1 (by decide))) rfl hg273 ?_
  refine e_aload_n f306_1209 rfl ?_
  refine e_iload_n f306_1210 rfl ?_
  refine e_iconst (v := 3) f306_1211 (by decide) ?_
  refine e_iadd f306_1212 ?_
  by_cases hg274 : ((v3) + (3)) < (0 : Int32) ∨ hN (h) (1) ≤ ((v3) + (3)).toNatClampNeg
  · rw [if_pos hg274] at hp; cases hp
  rw [if_neg hg274] at hp
  refine e_iaload f306_1213 (Or.inr (WF.x w 1 (by decide))) rfl hg274 ?_
  refine e_aload_n f306_1214 rfl ?_
  refine e_iload_n f306_1215 rfl ?_
  refine e_iconst (v := 4) f306_1216 (by decide) ?_
  refine e_iadd f306_1217 ?_
  by_cases hg275 : ((v3) + (4)) < (0 : Int32) ∨ hN (h) (1) ≤ ((v3) + (4)).toNatClampNeg
  · rw [if_pos hg275] at hp; cases hp
  rw [if_neg hg275] at hp
  refine e_iaload f306_1218 (Or.inr (WF.x w 1 (by decide))) rfl hg275 ?_
  obtain ⟨r276, hr277, hp⟩ := bind_some hp
  try dsimp only at hp
  refine e_callV (st := []) (o := 32) (as := [.int (hI (h) (1) ((v3) + (1)).toNatClampNeg), .int (hI (h) (1) ((v3) + (2)).toNatClampNeg), .int (hI (h) (1) ((v3) + (3)).toNatClampNeg), .int (hI (h) (1) ((v3) + (4)).toNatClampNeg)]) f306_1219 (by decide) rfl rfl (Nat.le_of_ble_eq_true rfl) (WF.t w 32 (by decide)) (Nat.le_of_ble_eq_true rfl) (p140_ok (d + 62) (h) w (hI (h) (1) ((v3) + (1)).toNatClampNeg) (hI (h) (1) ((v3) + (2)).toNatClampNeg) (hI (h) (1) ((v3) + (3)).toNatClampNeg) (hI (h) (1) ((v3) + (4)).toNatClampNeg) r276 hr277) ?_
  show ex _ 306 (1222, [some (.ref (1)), some (.ref (32)), some (.ref (86)), some (.int (v3))], [.int (r276.1)], r276.2) = _
  refine e_aload_n f306_1222 rfl ?_
  refine e_aload_n f306_1223 rfl ?_
  refine e_iload_n f306_1224 rfl ?_
  refine e_iconst (v := 1) f306_1225 (by decide) ?_
  refine e_iadd f306_1226 ?_
  by_cases hg278 : ((v3) + (1)) < (0 : Int32) ∨ hN (r276.2) (1) ≤ ((v3) + (1)).toNatClampNeg
  · rw [if_pos hg278] at hp; cases hp
  rw [if_neg hg278] at hp
  refine e_iaload f306_1227 (Or.inr (WF.x (p140_w (h) w (hI (h) (1) ((v3) + (1)).toNatClampNeg) (hI (h) (1) ((v3) + (2)).toNatClampNeg) (hI (h) (1) ((v3) + (3)).toNatClampNeg) (hI (h) (1) ((v3) + (4)).toNatClampNeg)  r276 hr277) 1 (by decide))) rfl hg278 ?_
  refine e_aload_n f306_1228 rfl ?_
  refine e_iload_n f306_1229 rfl ?_
  refine e_iconst (v := 2) f306_1230 (by decide) ?_
  refine e_iadd f306_1231 ?_
  by_cases hg279 : ((v3) + (2)) < (0 : Int32) ∨ hN (r276.2) (1) ≤ ((v3) + (2)).toNatClampNeg
  · rw [if_pos hg279] at hp; cases hp
  rw [if_neg hg279] at hp
  refine e_iaload f306_1232 (Or.inr (WF.x (p140_w (h) w (hI (h) (1) ((v3) + (1)).toNatClampNeg) (hI (h) (1) ((v3) + (2)).toNatClampNeg) (hI (h) (1) ((v3) + (3)).toNatClampNeg) (hI (h) (1) ((v3) + (4)).toNatClampNeg)  r276 hr277) 1 (by decide))) rfl hg279 ?_
  refine e_aload_n f306_1233 rfl ?_
  refine e_iload_n f306_1234 rfl ?_
  refine e_iconst (v := 3) f306_1235 (by decide) ?_
  refine e_iadd f306_1236 ?_
  by_cases hg280 : ((v3) + (3)) < (0 : Int32) ∨ hN (r276.2) (1) ≤ ((v3) + (3)).toNatClampNeg
  · rw [if_pos hg280] at hp; cases hp
  rw [if_neg hg280] at hp
  refine e_iaload f306_1237 (Or.inr (WF.x (p140_w (h) w (hI (h) (1) ((v3) + (1)).toNatClampNeg) (hI (h) (1) ((v3) + (2)).toNatClampNeg) (hI (h) (1) ((v3) + (3)).toNatClampNeg) (hI (h) (1) ((v3) + (4)).toNatClampNeg)  r276 hr277) 1 (by decide))) rfl hg280 ?_
  refine e_aload_n f306_1238 rfl ?_
  refine e_iload_n f306_1239 rfl ?_
  refine e_iconst (v := 4) f306_1240 (by decide) ?_
  refine e_iadd f306_1241 ?_
  by_cases hg281 : ((v3) + (4)) < (0 : Int32) ∨ hN (r276.2) (1) ≤ ((v3) + (4)).toNatClampNeg
  · rw [if_pos hg281] at hp; cases hp
  rw [if_neg hg281] at hp
  refine e_iaload f306_1242 (Or.inr (WF.x (p140_w (h) w (hI (h) (1) ((v3) + (1)).toNatClampNeg) (hI (h) (1) ((v3) + (2)).toNatClampNeg) (hI (h) (1) ((v3) + (3)).toNatClampNeg) (hI (h) (1) ((v3) + (4)).toNatClampNeg)  r276 hr277) 1 (by decide))) rfl hg281 ?_
  obtain ⟨r282, hr283, hp⟩ := bind_some hp
  try dsimp only at hp
  refine e_callV (st := [.int (r276.1)]) (o := 86) (as := [.int (hI (r276.2) (1) ((v3) + (1)).toNatClampNeg), .int (hI (r276.2) (1) ((v3) + (2)).toNatClampNeg), .int (hI (r276.2) (1) ((v3) + (3)).toNatClampNeg), .int (hI (r276.2) (1) ((v3) + (4)).toNatClampNeg)]) f306_1243 (by decide) rfl rfl (Nat.le_of_ble_eq_true rfl) (WF.t (p140_w (h) w (hI (h) (1) ((v3) + (1)).toNatClampNeg) (hI (h) (1) ((v3) + (2)).toNatClampNeg) (hI (h) (1) ((v3) + (3)).toNatClampNeg) (hI (h) (1) ((v3) + (4)).toNatClampNeg)  r276 hr277) 86 (by decide)) (Nat.le_of_ble_eq_true rfl) (p239_ok (d + 62) (r276.2) (p140_w (h) w (hI (h) (1) ((v3) + (1)).toNatClampNeg) (hI (h) (1) ((v3) + (2)).toNatClampNeg) (hI (h) (1) ((v3) + (3)).toNatClampNeg) (hI (h) (1) ((v3) + (4)).toNatClampNeg)  r276 hr277) (hI (r276.2) (1) ((v3) + (1)).toNatClampNeg) (hI (r276.2) (1) ((v3) + (2)).toNatClampNeg) (hI (r276.2) (1) ((v3) + (3)).toNatClampNeg) (hI (r276.2) (1) ((v3) + (4)).toNatClampNeg) r282 hr283) ?_
  show ex _ 306 (1246, [some (.ref (1)), some (.ref (32)), some (.ref (86)), some (.int (v3))], [.int (r282.1), .int (r276.1)], r282.2) = _
  by_cases hc284 : (r276.1) = ((r282.1) : Int32)
  · rw [if_pos hc284] at hp
    refine e_icmp_eq_t f306_1246 hc284 ?_
    refine ex_weak (ls := [some (.ref (1)), some (.ref (32)), some (.ref (86)), some (.int (v3))]) (le2_ok ⟨Or.inr rfl, Or.inr rfl, Or.inr rfl, Or.inr rfl, trivial⟩) ?_
    exact p306_j2120_ok d F (K18) (hK18) (r282.2) ((p239_w (r276.2) (p140_w (h) w (hI (h) (1) ((v3) + (1)).toNatClampNeg) (hI (h) (1) ((v3) + (2)).toNatClampNeg) (hI (h) (1) ((v3) + (3)).toNatClampNeg) (hI (h) (1) ((v3) + (4)).toNatClampNeg)  r276 hr277) (hI (r276.2) (1) ((v3) + (1)).toNatClampNeg) (hI (r276.2) (1) ((v3) + (2)).toNatClampNeg) (hI (r276.2) (1) ((v3) + (3)).toNatClampNeg) (hI (r276.2) (1) ((v3) + (4)).toNatClampNeg)  r282 hr283)) (v3) _ hp
  · rw [if_neg hc284] at hp
    refine e_icmp_eq_f f306_1246 hc284 ?_
    refine e_iconst (v := 0) f306_1249 (by decide) ?_
    have hp := Option.some.inj hp
    subst hp
    exact e_ireturn f306_1250 (by decide)
set_option maxRecDepth 100000 in
set_option maxHeartbeats 4000000 in
theorem p306_lb27_ok (d : Nat) (F : Nat) (K18 : HS → Int32 → Option (Int32 × HS)) (hK18 : ∀ (h : HS) (w : WF h) (u3 : Int32) (r : Int32 × HS), K18 h u3 = some r → ex (d + 66) 306 (18, [some (.ref (1)), some (.ref (32)), some (.ref (86)), some (.int (u3))], [], h) = some (some (.int (r.1)), r.2)) (h : HS) (w : WF h) (v3 : Int32) (r : Int32 × HS) (hp : lb27 F K18 h v3 = some r) : ex (d + 66) 306 (1251, [some (.ref (1)), some (.ref (32)), some (.ref (86)), some (.int (v3))], [], h) = some (some (.int (r.1)), r.2) := by
  unfold lb27 at hp
  refine e_aload_n f306_1251 rfl ?_
  refine e_aload_n f306_1252 rfl ?_
  refine e_iload_n f306_1253 rfl ?_
  refine e_iconst (v := 1) f306_1254 (by decide) ?_
  refine e_iadd f306_1255 ?_
  by_cases hg286 : ((v3) + (1)) < (0 : Int32) ∨ hN (h) (1) ≤ ((v3) + (1)).toNatClampNeg
  · rw [if_pos hg286] at hp; cases hp
  rw [if_neg hg286] at hp
  refine e_iaload f306_1256 (Or.inr (WF.x w 1 (by decide))) rfl hg286 ?_
  refine e_aload_n f306_1257 rfl ?_
  refine e_iload_n f306_1258 rfl ?_
  refine e_iconst (v := 2) f306_1259 (by decide) ?_
  refine e_iadd f306_1260 ?_
  by_cases hg287 : ((v3) + (2)) < (0 : Int32) ∨ hN (h) (1) ≤ ((v3) + (2)).toNatClampNeg
  · rw [if_pos hg287] at hp; cases hp
  rw [if_neg hg287] at hp
  refine e_iaload f306_1261 (Or.inr (WF.x w 1 (by decide))) rfl hg287 ?_
  obtain ⟨r288, hr289, hp⟩ := bind_some hp
  try dsimp only at hp
  refine e_callV (st := []) (o := 32) (as := [.int (hI (h) (1) ((v3) + (1)).toNatClampNeg), .int (hI (h) (1) ((v3) + (2)).toNatClampNeg)]) f306_1262 (by decide) rfl rfl (Nat.le_of_ble_eq_true rfl) (WF.t w 32 (by decide)) (Nat.le_of_ble_eq_true rfl) (p141_ok (d + 61) F (h) w (hI (h) (1) ((v3) + (1)).toNatClampNeg) (hI (h) (1) ((v3) + (2)).toNatClampNeg) r288 hr289) ?_
  show ex _ 306 (1265, [some (.ref (1)), some (.ref (32)), some (.ref (86)), some (.int (v3))], [.int (r288)], h) = _
  refine e_aload_n f306_1265 rfl ?_
  refine e_aload_n f306_1266 rfl ?_
  refine e_iload_n f306_1267 rfl ?_
  refine e_iconst (v := 1) f306_1268 (by decide) ?_
  refine e_iadd f306_1269 ?_
  by_cases hg290 : ((v3) + (1)) < (0 : Int32) ∨ hN (h) (1) ≤ ((v3) + (1)).toNatClampNeg
  · rw [if_pos hg290] at hp; cases hp
  rw [if_neg hg290] at hp
  refine e_iaload f306_1270 (Or.inr (WF.x w 1 (by decide))) rfl hg290 ?_
  refine e_aload_n f306_1271 rfl ?_
  refine e_iload_n f306_1272 rfl ?_
  refine e_iconst (v := 2) f306_1273 (by decide) ?_
  refine e_iadd f306_1274 ?_
  by_cases hg291 : ((v3) + (2)) < (0 : Int32) ∨ hN (h) (1) ≤ ((v3) + (2)).toNatClampNeg
  · rw [if_pos hg291] at hp; cases hp
  rw [if_neg hg291] at hp
  refine e_iaload f306_1275 (Or.inr (WF.x w 1 (by decide))) rfl hg291 ?_
  obtain ⟨r292, hr293, hp⟩ := bind_some hp
  try dsimp only at hp
  refine e_callV (st := [.int (r288)]) (o := 86) (as := [.int (hI (h) (1) ((v3) + (1)).toNatClampNeg), .int (hI (h) (1) ((v3) + (2)).toNatClampNeg)]) f306_1276 (by decide) rfl rfl (Nat.le_of_ble_eq_true rfl) (WF.t w 86 (by decide)) (Nat.le_of_ble_eq_true rfl) (p240_ok (d + 62) F (h) w (hI (h) (1) ((v3) + (1)).toNatClampNeg) (hI (h) (1) ((v3) + (2)).toNatClampNeg) r292 hr293) ?_
  show ex _ 306 (1279, [some (.ref (1)), some (.ref (32)), some (.ref (86)), some (.int (v3))], [.int (r292), .int (r288)], h) = _
  by_cases hc294 : (r288) = ((r292) : Int32)
  · rw [if_pos hc294] at hp
    refine e_icmp_eq_t f306_1279 hc294 ?_
    refine ex_weak (ls := [some (.ref (1)), some (.ref (32)), some (.ref (86)), some (.int (v3))]) (le2_ok ⟨Or.inr rfl, Or.inr rfl, Or.inr rfl, Or.inr rfl, trivial⟩) ?_
    exact p306_j2120_ok d F (K18) (hK18) (h) (w) (v3) _ hp
  · rw [if_neg hc294] at hp
    refine e_icmp_eq_f f306_1279 hc294 ?_
    refine e_iconst (v := 0) f306_1282 (by decide) ?_
    have hp := Option.some.inj hp
    subst hp
    exact e_ireturn f306_1283 (by decide)
set_option maxRecDepth 100000 in
set_option maxHeartbeats 4000000 in
theorem p306_lb28_ok (d : Nat) (F : Nat) (K18 : HS → Int32 → Option (Int32 × HS)) (hK18 : ∀ (h : HS) (w : WF h) (u3 : Int32) (r : Int32 × HS), K18 h u3 = some r → ex (d + 66) 306 (18, [some (.ref (1)), some (.ref (32)), some (.ref (86)), some (.int (u3))], [], h) = some (some (.int (r.1)), r.2)) (h : HS) (w : WF h) (v3 : Int32) (r : Int32 × HS) (hp : lb28 F K18 h v3 = some r) : ex (d + 66) 306 (1284, [some (.ref (1)), some (.ref (32)), some (.ref (86)), some (.int (v3))], [], h) = some (some (.int (r.1)), r.2) := by
  unfold lb28 at hp
  refine e_aload_n f306_1284 rfl ?_
  refine e_aload_n f306_1285 rfl ?_
  refine e_iload_n f306_1286 rfl ?_
  refine e_iconst (v := 1) f306_1287 (by decide) ?_
  refine e_iadd f306_1288 ?_
  by_cases hg296 : ((v3) + (1)) < (0 : Int32) ∨ hN (h) (1) ≤ ((v3) + (1)).toNatClampNeg
  · rw [if_pos hg296] at hp; cases hp
  rw [if_neg hg296] at hp
  refine e_iaload f306_1289 (Or.inr (WF.x w 1 (by decide))) rfl hg296 ?_
  refine e_aload_n f306_1290 rfl ?_
  refine e_iload_n f306_1291 rfl ?_
  refine e_iconst (v := 2) f306_1292 (by decide) ?_
  refine e_iadd f306_1293 ?_
  by_cases hg297 : ((v3) + (2)) < (0 : Int32) ∨ hN (h) (1) ≤ ((v3) + (2)).toNatClampNeg
  · rw [if_pos hg297] at hp; cases hp
  rw [if_neg hg297] at hp
  refine e_iaload f306_1294 (Or.inr (WF.x w 1 (by decide))) rfl hg297 ?_
  refine e_aload_n f306_1295 rfl ?_
  refine e_iload_n f306_1296 rfl ?_
  refine e_iconst (v := 3) f306_1297 (by decide) ?_
  refine e_iadd f306_1298 ?_
  by_cases hg298 : ((v3) + (3)) < (0 : Int32) ∨ hN (h) (1) ≤ ((v3) + (3)).toNatClampNeg
  · rw [if_pos hg298] at hp; cases hp
  rw [if_neg hg298] at hp
  refine e_iaload f306_1299 (Or.inr (WF.x w 1 (by decide))) rfl hg298 ?_
  refine e_aload_n f306_1300 rfl ?_
  refine e_iload_n f306_1301 rfl ?_
  refine e_iconst (v := 4) f306_1302 (by decide) ?_
  refine e_iadd f306_1303 ?_
  by_cases hg299 : ((v3) + (4)) < (0 : Int32) ∨ hN (h) (1) ≤ ((v3) + (4)).toNatClampNeg
  · rw [if_pos hg299] at hp; cases hp
  rw [if_neg hg299] at hp
  refine e_iaload f306_1304 (Or.inr (WF.x w 1 (by decide))) rfl hg299 ?_
  refine e_aload_n f306_1305 rfl ?_
  refine e_iload_n f306_1306 rfl ?_
  refine e_iconst (v := 5) f306_1307 (by decide) ?_
  refine e_iadd f306_1308 ?_
  by_cases hg300 : ((v3) + (5)) < (0 : Int32) ∨ hN (h) (1) ≤ ((v3) + (5)).toNatClampNeg
  · rw [if_pos hg300] at hp; cases hp
  rw [if_neg hg300] at hp
  refine e_iaload f306_1309 (Or.inr (WF.x w 1 (by decide))) rfl hg300 ?_
  obtain ⟨r301, hr302, hp⟩ := bind_some hp
  try dsimp only at hp
  refine e_callV (st := []) (o := 32) (as := [.int (hI (h) (1) ((v3) + (1)).toNatClampNeg), .int (hI (h) (1) ((v3) + (2)).toNatClampNeg), .int (hI (h) (1) ((v3) + (3)).toNatClampNeg), .int (hI (h) (1) ((v3) + (4)).toNatClampNeg), .int (hI (h) (1) ((v3) + (5)).toNatClampNeg)]) f306_1310 (by decide) rfl rfl (Nat.le_of_ble_eq_true rfl) (WF.t w 32 (by decide)) (Nat.le_of_ble_eq_true rfl) (p142_ok (d + 64) F (h) w (hI (h) (1) ((v3) + (1)).toNatClampNeg) (hI (h) (1) ((v3) + (2)).toNatClampNeg) (hI (h) (1) ((v3) + (3)).toNatClampNeg) (hI (h) (1) ((v3) + (4)).toNatClampNeg) (hI (h) (1) ((v3) + (5)).toNatClampNeg) r301 hr302) ?_
  show ex _ 306 (1313, [some (.ref (1)), some (.ref (32)), some (.ref (86)), some (.int (v3))], [.int (r301.1)], r301.2) = _
  refine e_aload_n f306_1313 rfl ?_
  refine e_aload_n f306_1314 rfl ?_
  refine e_iload_n f306_1315 rfl ?_
  refine e_iconst (v := 1) f306_1316 (by decide) ?_
  refine e_iadd f306_1317 ?_
  by_cases hg303 : ((v3) + (1)) < (0 : Int32) ∨ hN (r301.2) (1) ≤ ((v3) + (1)).toNatClampNeg
  · rw [if_pos hg303] at hp; cases hp
  rw [if_neg hg303] at hp
  refine e_iaload f306_1318 (Or.inr (WF.x (p142_w F (h) w (hI (h) (1) ((v3) + (1)).toNatClampNeg) (hI (h) (1) ((v3) + (2)).toNatClampNeg) (hI (h) (1) ((v3) + (3)).toNatClampNeg) (hI (h) (1) ((v3) + (4)).toNatClampNeg) (hI (h) (1) ((v3) + (5)).toNatClampNeg)  r301 hr302) 1 (by decide))) rfl hg303 ?_
  refine e_aload_n f306_1319 rfl ?_
  refine e_iload_n f306_1320 rfl ?_
  refine e_iconst (v := 2) f306_1321 (by decide) ?_
  refine e_iadd f306_1322 ?_
  by_cases hg304 : ((v3) + (2)) < (0 : Int32) ∨ hN (r301.2) (1) ≤ ((v3) + (2)).toNatClampNeg
  · rw [if_pos hg304] at hp; cases hp
  rw [if_neg hg304] at hp
  refine e_iaload f306_1323 (Or.inr (WF.x (p142_w F (h) w (hI (h) (1) ((v3) + (1)).toNatClampNeg) (hI (h) (1) ((v3) + (2)).toNatClampNeg) (hI (h) (1) ((v3) + (3)).toNatClampNeg) (hI (h) (1) ((v3) + (4)).toNatClampNeg) (hI (h) (1) ((v3) + (5)).toNatClampNeg)  r301 hr302) 1 (by decide))) rfl hg304 ?_
  refine e_aload_n f306_1324 rfl ?_
  refine e_iload_n f306_1325 rfl ?_
  refine e_iconst (v := 3) f306_1326 (by decide) ?_
  refine e_iadd f306_1327 ?_
  by_cases hg305 : ((v3) + (3)) < (0 : Int32) ∨ hN (r301.2) (1) ≤ ((v3) + (3)).toNatClampNeg
  · rw [if_pos hg305] at hp; cases hp
  rw [if_neg hg305] at hp
  refine e_iaload f306_1328 (Or.inr (WF.x (p142_w F (h) w (hI (h) (1) ((v3) + (1)).toNatClampNeg) (hI (h) (1) ((v3) + (2)).toNatClampNeg) (hI (h) (1) ((v3) + (3)).toNatClampNeg) (hI (h) (1) ((v3) + (4)).toNatClampNeg) (hI (h) (1) ((v3) + (5)).toNatClampNeg)  r301 hr302) 1 (by decide))) rfl hg305 ?_
  refine e_aload_n f306_1329 rfl ?_
  refine e_iload_n f306_1330 rfl ?_
  refine e_iconst (v := 4) f306_1331 (by decide) ?_
  refine e_iadd f306_1332 ?_
  by_cases hg306 : ((v3) + (4)) < (0 : Int32) ∨ hN (r301.2) (1) ≤ ((v3) + (4)).toNatClampNeg
  · rw [if_pos hg306] at hp; cases hp
  rw [if_neg hg306] at hp
  refine e_iaload f306_1333 (Or.inr (WF.x (p142_w F (h) w (hI (h) (1) ((v3) + (1)).toNatClampNeg) (hI (h) (1) ((v3) + (2)).toNatClampNeg) (hI (h) (1) ((v3) + (3)).toNatClampNeg) (hI (h) (1) ((v3) + (4)).toNatClampNeg) (hI (h) (1) ((v3) + (5)).toNatClampNeg)  r301 hr302) 1 (by decide))) rfl hg306 ?_
  refine e_aload_n f306_1334 rfl ?_
  refine e_iload_n f306_1335 rfl ?_
  refine e_iconst (v := 5) f306_1336 (by decide) ?_
  refine e_iadd f306_1337 ?_
  by_cases hg307 : ((v3) + (5)) < (0 : Int32) ∨ hN (r301.2) (1) ≤ ((v3) + (5)).toNatClampNeg
  · rw [if_pos hg307] at hp; cases hp
  rw [if_neg hg307] at hp
  refine e_iaload f306_1338 (Or.inr (WF.x (p142_w F (h) w (hI (h) (1) ((v3) + (1)).toNatClampNeg) (hI (h) (1) ((v3) + (2)).toNatClampNeg) (hI (h) (1) ((v3) + (3)).toNatClampNeg) (hI (h) (1) ((v3) + (4)).toNatClampNeg) (hI (h) (1) ((v3) + (5)).toNatClampNeg)  r301 hr302) 1 (by decide))) rfl hg307 ?_
  obtain ⟨r308, hr309, hp⟩ := bind_some hp
  try dsimp only at hp
  refine e_callV (st := [.int (r301.1)]) (o := 86) (as := [.int (hI (r301.2) (1) ((v3) + (1)).toNatClampNeg), .int (hI (r301.2) (1) ((v3) + (2)).toNatClampNeg), .int (hI (r301.2) (1) ((v3) + (3)).toNatClampNeg), .int (hI (r301.2) (1) ((v3) + (4)).toNatClampNeg), .int (hI (r301.2) (1) ((v3) + (5)).toNatClampNeg)]) f306_1339 (by decide) rfl rfl (Nat.le_of_ble_eq_true rfl) (WF.t (p142_w F (h) w (hI (h) (1) ((v3) + (1)).toNatClampNeg) (hI (h) (1) ((v3) + (2)).toNatClampNeg) (hI (h) (1) ((v3) + (3)).toNatClampNeg) (hI (h) (1) ((v3) + (4)).toNatClampNeg) (hI (h) (1) ((v3) + (5)).toNatClampNeg)  r301 hr302) 86 (by decide)) (Nat.le_of_ble_eq_true rfl) (p241_ok (d + 64) F (r301.2) (p142_w F (h) w (hI (h) (1) ((v3) + (1)).toNatClampNeg) (hI (h) (1) ((v3) + (2)).toNatClampNeg) (hI (h) (1) ((v3) + (3)).toNatClampNeg) (hI (h) (1) ((v3) + (4)).toNatClampNeg) (hI (h) (1) ((v3) + (5)).toNatClampNeg)  r301 hr302) (hI (r301.2) (1) ((v3) + (1)).toNatClampNeg) (hI (r301.2) (1) ((v3) + (2)).toNatClampNeg) (hI (r301.2) (1) ((v3) + (3)).toNatClampNeg) (hI (r301.2) (1) ((v3) + (4)).toNatClampNeg) (hI (r301.2) (1) ((v3) + (5)).toNatClampNeg) r308 hr309) ?_
  show ex _ 306 (1342, [some (.ref (1)), some (.ref (32)), some (.ref (86)), some (.int (v3))], [.int (r308.1), .int (r301.1)], r308.2) = _
  by_cases hc310 : (r301.1) = ((r308.1) : Int32)
  · rw [if_pos hc310] at hp
    refine e_icmp_eq_t f306_1342 hc310 ?_
    refine ex_weak (ls := [some (.ref (1)), some (.ref (32)), some (.ref (86)), some (.int (v3))]) (le2_ok ⟨Or.inr rfl, Or.inr rfl, Or.inr rfl, Or.inr rfl, trivial⟩) ?_
    exact p306_j2120_ok d F (K18) (hK18) (r308.2) ((p241_w F (r301.2) (p142_w F (h) w (hI (h) (1) ((v3) + (1)).toNatClampNeg) (hI (h) (1) ((v3) + (2)).toNatClampNeg) (hI (h) (1) ((v3) + (3)).toNatClampNeg) (hI (h) (1) ((v3) + (4)).toNatClampNeg) (hI (h) (1) ((v3) + (5)).toNatClampNeg)  r301 hr302) (hI (r301.2) (1) ((v3) + (1)).toNatClampNeg) (hI (r301.2) (1) ((v3) + (2)).toNatClampNeg) (hI (r301.2) (1) ((v3) + (3)).toNatClampNeg) (hI (r301.2) (1) ((v3) + (4)).toNatClampNeg) (hI (r301.2) (1) ((v3) + (5)).toNatClampNeg)  r308 hr309)) (v3) _ hp
  · rw [if_neg hc310] at hp
    refine e_icmp_eq_f f306_1342 hc310 ?_
    refine e_iconst (v := 0) f306_1345 (by decide) ?_
    have hp := Option.some.inj hp
    subst hp
    exact e_ireturn f306_1346 (by decide)
set_option maxRecDepth 100000 in
set_option maxHeartbeats 4000000 in
theorem p306_lb29_ok (d : Nat) (F : Nat) (K18 : HS → Int32 → Option (Int32 × HS)) (hK18 : ∀ (h : HS) (w : WF h) (u3 : Int32) (r : Int32 × HS), K18 h u3 = some r → ex (d + 66) 306 (18, [some (.ref (1)), some (.ref (32)), some (.ref (86)), some (.int (u3))], [], h) = some (some (.int (r.1)), r.2)) (h : HS) (w : WF h) (v3 : Int32) (r : Int32 × HS) (hp : lb29 F K18 h v3 = some r) : ex (d + 66) 306 (1347, [some (.ref (1)), some (.ref (32)), some (.ref (86)), some (.int (v3))], [], h) = some (some (.int (r.1)), r.2) := by
  unfold lb29 at hp
  refine e_aload_n f306_1347 rfl ?_
  refine e_aload_n f306_1348 rfl ?_
  refine e_iload_n f306_1349 rfl ?_
  refine e_iconst (v := 1) f306_1350 (by decide) ?_
  refine e_iadd f306_1351 ?_
  by_cases hg312 : ((v3) + (1)) < (0 : Int32) ∨ hN (h) (1) ≤ ((v3) + (1)).toNatClampNeg
  · rw [if_pos hg312] at hp; cases hp
  rw [if_neg hg312] at hp
  refine e_iaload f306_1352 (Or.inr (WF.x w 1 (by decide))) rfl hg312 ?_
  obtain ⟨r313, hr314, hp⟩ := bind_some hp
  try dsimp only at hp
  refine e_callV (st := []) (o := 32) (as := [.int (hI (h) (1) ((v3) + (1)).toNatClampNeg)]) f306_1353 (by decide) rfl rfl (Nat.le_of_ble_eq_true rfl) (WF.t w 32 (by decide)) (Nat.le_of_ble_eq_true rfl) (p143_ok (d + 64) (h) w (hI (h) (1) ((v3) + (1)).toNatClampNeg) r313 hr314) ?_
  show ex _ 306 (1356, [some (.ref (1)), some (.ref (32)), some (.ref (86)), some (.int (v3))], [.int (r313.1)], r313.2) = _
  refine e_aload_n f306_1356 rfl ?_
  refine e_aload_n f306_1357 rfl ?_
  refine e_iload_n f306_1358 rfl ?_
  refine e_iconst (v := 1) f306_1359 (by decide) ?_
  refine e_iadd f306_1360 ?_
  by_cases hg315 : ((v3) + (1)) < (0 : Int32) ∨ hN (r313.2) (1) ≤ ((v3) + (1)).toNatClampNeg
  · rw [if_pos hg315] at hp; cases hp
  rw [if_neg hg315] at hp
  refine e_iaload f306_1361 (Or.inr (WF.x (p143_w (h) w (hI (h) (1) ((v3) + (1)).toNatClampNeg)  r313 hr314) 1 (by decide))) rfl hg315 ?_
  obtain ⟨r316, hr317, hp⟩ := bind_some hp
  try dsimp only at hp
  refine e_callV (st := [.int (r313.1)]) (o := 86) (as := [.int (hI (r313.2) (1) ((v3) + (1)).toNatClampNeg)]) f306_1362 (by decide) rfl rfl (Nat.le_of_ble_eq_true rfl) (WF.t (p143_w (h) w (hI (h) (1) ((v3) + (1)).toNatClampNeg)  r313 hr314) 86 (by decide)) (Nat.le_of_ble_eq_true rfl) (p243_ok (d + 65) (r313.2) (p143_w (h) w (hI (h) (1) ((v3) + (1)).toNatClampNeg)  r313 hr314) (hI (r313.2) (1) ((v3) + (1)).toNatClampNeg) r316 hr317) ?_
  show ex _ 306 (1365, [some (.ref (1)), some (.ref (32)), some (.ref (86)), some (.int (v3))], [.int (r316.1), .int (r313.1)], r316.2) = _
  by_cases hc318 : (r313.1) = ((r316.1) : Int32)
  · rw [if_pos hc318] at hp
    refine e_icmp_eq_t f306_1365 hc318 ?_
    refine ex_weak (ls := [some (.ref (1)), some (.ref (32)), some (.ref (86)), some (.int (v3))]) (le2_ok ⟨Or.inr rfl, Or.inr rfl, Or.inr rfl, Or.inr rfl, trivial⟩) ?_
    exact p306_j2120_ok d F (K18) (hK18) (r316.2) ((p243_w (r313.2) (p143_w (h) w (hI (h) (1) ((v3) + (1)).toNatClampNeg)  r313 hr314) (hI (r313.2) (1) ((v3) + (1)).toNatClampNeg)  r316 hr317)) (v3) _ hp
  · rw [if_neg hc318] at hp
    refine e_icmp_eq_f f306_1365 hc318 ?_
    refine e_iconst (v := 0) f306_1368 (by decide) ?_
    have hp := Option.some.inj hp
    subst hp
    exact e_ireturn f306_1369 (by decide)
set_option maxRecDepth 100000 in
set_option maxHeartbeats 4000000 in
theorem p306_lb30_ok (d : Nat) (F : Nat) (K18 : HS → Int32 → Option (Int32 × HS)) (hK18 : ∀ (h : HS) (w : WF h) (u3 : Int32) (r : Int32 × HS), K18 h u3 = some r → ex (d + 66) 306 (18, [some (.ref (1)), some (.ref (32)), some (.ref (86)), some (.int (u3))], [], h) = some (some (.int (r.1)), r.2)) (h : HS) (w : WF h) (v3 : Int32) (r : Int32 × HS) (hp : lb30 F K18 h v3 = some r) : ex (d + 66) 306 (1370, [some (.ref (1)), some (.ref (32)), some (.ref (86)), some (.int (v3))], [], h) = some (some (.int (r.1)), r.2) := by
  unfold lb30 at hp
  refine e_aload_n f306_1370 rfl ?_
  refine e_aload_n f306_1371 rfl ?_
  refine e_iload_n f306_1372 rfl ?_
  refine e_iconst (v := 1) f306_1373 (by decide) ?_
  refine e_iadd f306_1374 ?_
  by_cases hg320 : ((v3) + (1)) < (0 : Int32) ∨ hN (h) (1) ≤ ((v3) + (1)).toNatClampNeg
  · rw [if_pos hg320] at hp; cases hp
  rw [if_neg hg320] at hp
  refine e_iaload f306_1375 (Or.inr (WF.x w 1 (by decide))) rfl hg320 ?_
  obtain ⟨r321, hr322, hp⟩ := bind_some hp
  try dsimp only at hp
  refine e_callV (st := []) (o := 32) (as := [.int (hI (h) (1) ((v3) + (1)).toNatClampNeg)]) f306_1376 (by decide) rfl rfl (Nat.le_of_ble_eq_true rfl) (WF.t w 32 (by decide)) (Nat.le_of_ble_eq_true rfl) (p144_ok d F (h) w (hI (h) (1) ((v3) + (1)).toNatClampNeg) r321 hr322) ?_
  show ex _ 306 (1379, [some (.ref (1)), some (.ref (32)), some (.ref (86)), some (.int (v3))], [.int (r321.1)], r321.2) = _
  refine e_aload_n f306_1379 rfl ?_
  refine e_aload_n f306_1380 rfl ?_
  refine e_iload_n f306_1381 rfl ?_
  refine e_iconst (v := 1) f306_1382 (by decide) ?_
  refine e_iadd f306_1383 ?_
  by_cases hg323 : ((v3) + (1)) < (0 : Int32) ∨ hN (r321.2) (1) ≤ ((v3) + (1)).toNatClampNeg
  · rw [if_pos hg323] at hp; cases hp
  rw [if_neg hg323] at hp
  refine e_iaload f306_1384 (Or.inr (WF.x (p144_w F (h) w (hI (h) (1) ((v3) + (1)).toNatClampNeg)  r321 hr322) 1 (by decide))) rfl hg323 ?_
  obtain ⟨r324, hr325, hp⟩ := bind_some hp
  try dsimp only at hp
  refine e_callV (st := [.int (r321.1)]) (o := 86) (as := [.int (hI (r321.2) (1) ((v3) + (1)).toNatClampNeg)]) f306_1385 (by decide) rfl rfl (Nat.le_of_ble_eq_true rfl) (WF.t (p144_w F (h) w (hI (h) (1) ((v3) + (1)).toNatClampNeg)  r321 hr322) 86 (by decide)) (Nat.le_of_ble_eq_true rfl) (p267_ok (d + 61) F (r321.2) (p144_w F (h) w (hI (h) (1) ((v3) + (1)).toNatClampNeg)  r321 hr322) (hI (r321.2) (1) ((v3) + (1)).toNatClampNeg) r324 hr325) ?_
  show ex _ 306 (1388, [some (.ref (1)), some (.ref (32)), some (.ref (86)), some (.int (v3))], [.int (r324.1), .int (r321.1)], r324.2) = _
  by_cases hc326 : (r321.1) = ((r324.1) : Int32)
  · rw [if_pos hc326] at hp
    refine e_icmp_eq_t f306_1388 hc326 ?_
    refine ex_weak (ls := [some (.ref (1)), some (.ref (32)), some (.ref (86)), some (.int (v3))]) (le2_ok ⟨Or.inr rfl, Or.inr rfl, Or.inr rfl, Or.inr rfl, trivial⟩) ?_
    exact p306_j2120_ok d F (K18) (hK18) (r324.2) ((p267_w F (r321.2) (p144_w F (h) w (hI (h) (1) ((v3) + (1)).toNatClampNeg)  r321 hr322) (hI (r321.2) (1) ((v3) + (1)).toNatClampNeg)  r324 hr325)) (v3) _ hp
  · rw [if_neg hc326] at hp
    refine e_icmp_eq_f f306_1388 hc326 ?_
    refine e_iconst (v := 0) f306_1391 (by decide) ?_
    have hp := Option.some.inj hp
    subst hp
    exact e_ireturn f306_1392 (by decide)
set_option maxRecDepth 100000 in
set_option maxHeartbeats 4000000 in
theorem p306_lb31_ok (d : Nat) (F : Nat) (K18 : HS → Int32 → Option (Int32 × HS)) (hK18 : ∀ (h : HS) (w : WF h) (u3 : Int32) (r : Int32 × HS), K18 h u3 = some r → ex (d + 66) 306 (18, [some (.ref (1)), some (.ref (32)), some (.ref (86)), some (.int (u3))], [], h) = some (some (.int (r.1)), r.2)) (h : HS) (w : WF h) (v3 : Int32) (r : Int32 × HS) (hp : lb31 F K18 h v3 = some r) : ex (d + 66) 306 (1393, [some (.ref (1)), some (.ref (32)), some (.ref (86)), some (.int (v3))], [], h) = some (some (.int (r.1)), r.2) := by
  unfold lb31 at hp
  refine e_aload_n f306_1393 rfl ?_
  refine e_aload_n f306_1394 rfl ?_
  refine e_iload_n f306_1395 rfl ?_
  refine e_iconst (v := 1) f306_1396 (by decide) ?_
  refine e_iadd f306_1397 ?_
  by_cases hg328 : ((v3) + (1)) < (0 : Int32) ∨ hN (h) (1) ≤ ((v3) + (1)).toNatClampNeg
  · rw [if_pos hg328] at hp; cases hp
  rw [if_neg hg328] at hp
  refine e_iaload f306_1398 (Or.inr (WF.x w 1 (by decide))) rfl hg328 ?_
  obtain ⟨r329, hr330, hp⟩ := bind_some hp
  try dsimp only at hp
  refine e_callV (st := []) (o := 32) (as := [.int (hI (h) (1) ((v3) + (1)).toNatClampNeg)]) f306_1399 (by decide) rfl rfl (Nat.le_of_ble_eq_true rfl) (WF.t w 32 (by decide)) (Nat.le_of_ble_eq_true rfl) (p145_ok (d + 63) F (h) w (hI (h) (1) ((v3) + (1)).toNatClampNeg) r329 hr330) ?_
  show ex _ 306 (1402, [some (.ref (1)), some (.ref (32)), some (.ref (86)), some (.int (v3))], [.int (r329)], h) = _
  refine e_aload_n f306_1402 rfl ?_
  refine e_aload_n f306_1403 rfl ?_
  refine e_iload_n f306_1404 rfl ?_
  refine e_iconst (v := 1) f306_1405 (by decide) ?_
  refine e_iadd f306_1406 ?_
  by_cases hg331 : ((v3) + (1)) < (0 : Int32) ∨ hN (h) (1) ≤ ((v3) + (1)).toNatClampNeg
  · rw [if_pos hg331] at hp; cases hp
  rw [if_neg hg331] at hp
  refine e_iaload f306_1407 (Or.inr (WF.x w 1 (by decide))) rfl hg331 ?_
  obtain ⟨r332, hr333, hp⟩ := bind_some hp
  try dsimp only at hp
  refine e_callV (st := [.int (r329)]) (o := 86) (as := [.int (hI (h) (1) ((v3) + (1)).toNatClampNeg)]) f306_1408 (by decide) rfl rfl (Nat.le_of_ble_eq_true rfl) (WF.t w 86 (by decide)) (Nat.le_of_ble_eq_true rfl) (p269_ok (d + 63) F (h) w (hI (h) (1) ((v3) + (1)).toNatClampNeg) r332 hr333) ?_
  show ex _ 306 (1411, [some (.ref (1)), some (.ref (32)), some (.ref (86)), some (.int (v3))], [.int (r332), .int (r329)], h) = _
  by_cases hc334 : (r329) = ((r332) : Int32)
  · rw [if_pos hc334] at hp
    refine e_icmp_eq_t f306_1411 hc334 ?_
    refine ex_weak (ls := [some (.ref (1)), some (.ref (32)), some (.ref (86)), some (.int (v3))]) (le2_ok ⟨Or.inr rfl, Or.inr rfl, Or.inr rfl, Or.inr rfl, trivial⟩) ?_
    exact p306_j2120_ok d F (K18) (hK18) (h) (w) (v3) _ hp
  · rw [if_neg hc334] at hp
    refine e_icmp_eq_f f306_1411 hc334 ?_
    refine e_iconst (v := 0) f306_1414 (by decide) ?_
    have hp := Option.some.inj hp
    subst hp
    exact e_ireturn f306_1415 (by decide)
set_option maxRecDepth 100000 in
set_option maxHeartbeats 4000000 in
theorem p306_lb32_ok (d : Nat) (F : Nat) (K18 : HS → Int32 → Option (Int32 × HS)) (hK18 : ∀ (h : HS) (w : WF h) (u3 : Int32) (r : Int32 × HS), K18 h u3 = some r → ex (d + 66) 306 (18, [some (.ref (1)), some (.ref (32)), some (.ref (86)), some (.int (u3))], [], h) = some (some (.int (r.1)), r.2)) (h : HS) (w : WF h) (v3 : Int32) (r : Int32 × HS) (hp : lb32 F K18 h v3 = some r) : ex (d + 66) 306 (1416, [some (.ref (1)), some (.ref (32)), some (.ref (86)), some (.int (v3))], [], h) = some (some (.int (r.1)), r.2) := by
  unfold lb32 at hp
  refine e_aload_n f306_1416 rfl ?_
  refine e_aload_n f306_1417 rfl ?_
  refine e_iload_n f306_1418 rfl ?_
  refine e_iconst (v := 1) f306_1419 (by decide) ?_
  refine e_iadd f306_1420 ?_
  by_cases hg336 : ((v3) + (1)) < (0 : Int32) ∨ hN (h) (1) ≤ ((v3) + (1)).toNatClampNeg
  · rw [if_pos hg336] at hp; cases hp
  rw [if_neg hg336] at hp
  refine e_iaload f306_1421 (Or.inr (WF.x w 1 (by decide))) rfl hg336 ?_
  refine e_aload_n f306_1422 rfl ?_
  refine e_iload_n f306_1423 rfl ?_
  refine e_iconst (v := 2) f306_1424 (by decide) ?_
  refine e_iadd f306_1425 ?_
  by_cases hg337 : ((v3) + (2)) < (0 : Int32) ∨ hN (h) (1) ≤ ((v3) + (2)).toNatClampNeg
  · rw [if_pos hg337] at hp; cases hp
  rw [if_neg hg337] at hp
  refine e_iaload f306_1426 (Or.inr (WF.x w 1 (by decide))) rfl hg337 ?_
  refine e_i2l f306_1427 ?_
  refine e_bipush (v := 32) f306_1428 (by decide) ?_
  refine e_lshl f306_1430 ?_
  refine e_aload_n f306_1431 rfl ?_
  refine e_iload_n f306_1432 rfl ?_
  refine e_iconst (v := 3) f306_1433 (by decide) ?_
  refine e_iadd f306_1434 ?_
  by_cases hg338 : ((v3) + (3)) < (0 : Int32) ∨ hN (h) (1) ≤ ((v3) + (3)).toNatClampNeg
  · rw [if_pos hg338] at hp; cases hp
  rw [if_neg hg338] at hp
  refine e_iaload f306_1435 (Or.inr (WF.x w 1 (by decide))) rfl hg338 ?_
  refine e_i2l f306_1436 ?_
  refine e_ldc2 (v := 4294967295) f306_1437 (by decide) ?_
  refine e_land f306_1440 ?_
  refine e_lor f306_1441 ?_
  refine e_aload_n f306_1442 rfl ?_
  refine e_iload_n f306_1443 rfl ?_
  refine e_iconst (v := 4) f306_1444 (by decide) ?_
  refine e_iadd f306_1445 ?_
  by_cases hg339 : ((v3) + (4)) < (0 : Int32) ∨ hN (h) (1) ≤ ((v3) + (4)).toNatClampNeg
  · rw [if_pos hg339] at hp; cases hp
  rw [if_neg hg339] at hp
  refine e_iaload f306_1446 (Or.inr (WF.x w 1 (by decide))) rfl hg339 ?_
  refine e_aload_n f306_1447 rfl ?_
  refine e_iload_n f306_1448 rfl ?_
  refine e_iconst (v := 5) f306_1449 (by decide) ?_
  refine e_iadd f306_1450 ?_
  by_cases hg340 : ((v3) + (5)) < (0 : Int32) ∨ hN (h) (1) ≤ ((v3) + (5)).toNatClampNeg
  · rw [if_pos hg340] at hp; cases hp
  rw [if_neg hg340] at hp
  refine e_iaload f306_1451 (Or.inr (WF.x w 1 (by decide))) rfl hg340 ?_
  obtain ⟨r341, hr342, hp⟩ := bind_some hp
  try dsimp only at hp
  refine e_callV (st := []) (o := 32) (as := [.int (hI (h) (1) ((v3) + (1)).toNatClampNeg), .long ((((hI (h) (1) ((v3) + (2)).toNatClampNeg).toInt64) <<< ((32 : Int32).toInt64 &&& 63)) ||| (((hI (h) (1) ((v3) + (3)).toNatClampNeg).toInt64) &&& ((4294967295 : Int64)))), .int (hI (h) (1) ((v3) + (4)).toNatClampNeg), .int (hI (h) (1) ((v3) + (5)).toNatClampNeg)]) f306_1452 (by decide) rfl rfl (Nat.le_of_ble_eq_true rfl) (WF.t w 32 (by decide)) (Nat.le_of_ble_eq_true rfl) (p146_ok (d + 62) (h) w (hI (h) (1) ((v3) + (1)).toNatClampNeg) ((((hI (h) (1) ((v3) + (2)).toNatClampNeg).toInt64) <<< ((32 : Int32).toInt64 &&& 63)) ||| (((hI (h) (1) ((v3) + (3)).toNatClampNeg).toInt64) &&& ((4294967295 : Int64)))) (hI (h) (1) ((v3) + (4)).toNatClampNeg) (hI (h) (1) ((v3) + (5)).toNatClampNeg) r341 hr342) ?_
  show ex _ 306 (1455, [some (.ref (1)), some (.ref (32)), some (.ref (86)), some (.int (v3))], [.int (r341.1)], r341.2) = _
  refine e_aload_n f306_1455 rfl ?_
  refine e_aload_n f306_1456 rfl ?_
  refine e_iload_n f306_1457 rfl ?_
  refine e_iconst (v := 1) f306_1458 (by decide) ?_
  refine e_iadd f306_1459 ?_
  by_cases hg343 : ((v3) + (1)) < (0 : Int32) ∨ hN (r341.2) (1) ≤ ((v3) + (1)).toNatClampNeg
  · rw [if_pos hg343] at hp; cases hp
  rw [if_neg hg343] at hp
  refine e_iaload f306_1460 (Or.inr (WF.x (p146_w (h) w (hI (h) (1) ((v3) + (1)).toNatClampNeg) ((((hI (h) (1) ((v3) + (2)).toNatClampNeg).toInt64) <<< ((32 : Int32).toInt64 &&& 63)) ||| (((hI (h) (1) ((v3) + (3)).toNatClampNeg).toInt64) &&& ((4294967295 : Int64)))) (hI (h) (1) ((v3) + (4)).toNatClampNeg) (hI (h) (1) ((v3) + (5)).toNatClampNeg)  r341 hr342) 1 (by decide))) rfl hg343 ?_
  refine e_aload_n f306_1461 rfl ?_
  refine e_iload_n f306_1462 rfl ?_
  refine e_iconst (v := 2) f306_1463 (by decide) ?_
  refine e_iadd f306_1464 ?_
  by_cases hg344 : ((v3) + (2)) < (0 : Int32) ∨ hN (r341.2) (1) ≤ ((v3) + (2)).toNatClampNeg
  · rw [if_pos hg344] at hp; cases hp
  rw [if_neg hg344] at hp
  refine e_iaload f306_1465 (Or.inr (WF.x (p146_w (h) w (hI (h) (1) ((v3) + (1)).toNatClampNeg) ((((hI (h) (1) ((v3) + (2)).toNatClampNeg).toInt64) <<< ((32 : Int32).toInt64 &&& 63)) ||| (((hI (h) (1) ((v3) + (3)).toNatClampNeg).toInt64) &&& ((4294967295 : Int64)))) (hI (h) (1) ((v3) + (4)).toNatClampNeg) (hI (h) (1) ((v3) + (5)).toNatClampNeg)  r341 hr342) 1 (by decide))) rfl hg344 ?_
  refine e_i2l f306_1466 ?_
  refine e_bipush (v := 32) f306_1467 (by decide) ?_
  refine e_lshl f306_1469 ?_
  refine e_aload_n f306_1470 rfl ?_
  refine e_iload_n f306_1471 rfl ?_
  refine e_iconst (v := 3) f306_1472 (by decide) ?_
  refine e_iadd f306_1473 ?_
  by_cases hg345 : ((v3) + (3)) < (0 : Int32) ∨ hN (r341.2) (1) ≤ ((v3) + (3)).toNatClampNeg
  · rw [if_pos hg345] at hp; cases hp
  rw [if_neg hg345] at hp
  refine e_iaload f306_1474 (Or.inr (WF.x (p146_w (h) w (hI (h) (1) ((v3) + (1)).toNatClampNeg) ((((hI (h) (1) ((v3) + (2)).toNatClampNeg).toInt64) <<< ((32 : Int32).toInt64 &&& 63)) ||| (((hI (h) (1) ((v3) + (3)).toNatClampNeg).toInt64) &&& ((4294967295 : Int64)))) (hI (h) (1) ((v3) + (4)).toNatClampNeg) (hI (h) (1) ((v3) + (5)).toNatClampNeg)  r341 hr342) 1 (by decide))) rfl hg345 ?_
  refine e_i2l f306_1475 ?_
  refine e_ldc2 (v := 4294967295) f306_1476 (by decide) ?_
  refine e_land f306_1479 ?_
  refine e_lor f306_1480 ?_
  refine e_aload_n f306_1481 rfl ?_
  refine e_iload_n f306_1482 rfl ?_
  refine e_iconst (v := 4) f306_1483 (by decide) ?_
  refine e_iadd f306_1484 ?_
  by_cases hg346 : ((v3) + (4)) < (0 : Int32) ∨ hN (r341.2) (1) ≤ ((v3) + (4)).toNatClampNeg
  · rw [if_pos hg346] at hp; cases hp
  rw [if_neg hg346] at hp
  refine e_iaload f306_1485 (Or.inr (WF.x (p146_w (h) w (hI (h) (1) ((v3) + (1)).toNatClampNeg) ((((hI (h) (1) ((v3) + (2)).toNatClampNeg).toInt64) <<< ((32 : Int32).toInt64 &&& 63)) ||| (((hI (h) (1) ((v3) + (3)).toNatClampNeg).toInt64) &&& ((4294967295 : Int64)))) (hI (h) (1) ((v3) + (4)).toNatClampNeg) (hI (h) (1) ((v3) + (5)).toNatClampNeg)  r341 hr342) 1 (by decide))) rfl hg346 ?_
  refine e_aload_n f306_1486 rfl ?_
  refine e_iload_n f306_1487 rfl ?_
  refine e_iconst (v := 5) f306_1488 (by decide) ?_
  refine e_iadd f306_1489 ?_
  by_cases hg347 : ((v3) + (5)) < (0 : Int32) ∨ hN (r341.2) (1) ≤ ((v3) + (5)).toNatClampNeg
  · rw [if_pos hg347] at hp; cases hp
  rw [if_neg hg347] at hp
  refine e_iaload f306_1490 (Or.inr (WF.x (p146_w (h) w (hI (h) (1) ((v3) + (1)).toNatClampNeg) ((((hI (h) (1) ((v3) + (2)).toNatClampNeg).toInt64) <<< ((32 : Int32).toInt64 &&& 63)) ||| (((hI (h) (1) ((v3) + (3)).toNatClampNeg).toInt64) &&& ((4294967295 : Int64)))) (hI (h) (1) ((v3) + (4)).toNatClampNeg) (hI (h) (1) ((v3) + (5)).toNatClampNeg)  r341 hr342) 1 (by decide))) rfl hg347 ?_
  obtain ⟨r348, hr349, hp⟩ := bind_some hp
  try dsimp only at hp
  refine e_callV (st := [.int (r341.1)]) (o := 86) (as := [.int (hI (r341.2) (1) ((v3) + (1)).toNatClampNeg), .long ((((hI (r341.2) (1) ((v3) + (2)).toNatClampNeg).toInt64) <<< ((32 : Int32).toInt64 &&& 63)) ||| (((hI (r341.2) (1) ((v3) + (3)).toNatClampNeg).toInt64) &&& ((4294967295 : Int64)))), .int (hI (r341.2) (1) ((v3) + (4)).toNatClampNeg), .int (hI (r341.2) (1) ((v3) + (5)).toNatClampNeg)]) f306_1491 (by decide) rfl rfl (Nat.le_of_ble_eq_true rfl) (WF.t (p146_w (h) w (hI (h) (1) ((v3) + (1)).toNatClampNeg) ((((hI (h) (1) ((v3) + (2)).toNatClampNeg).toInt64) <<< ((32 : Int32).toInt64 &&& 63)) ||| (((hI (h) (1) ((v3) + (3)).toNatClampNeg).toInt64) &&& ((4294967295 : Int64)))) (hI (h) (1) ((v3) + (4)).toNatClampNeg) (hI (h) (1) ((v3) + (5)).toNatClampNeg)  r341 hr342) 86 (by decide)) (Nat.le_of_ble_eq_true rfl) (p275_ok (d + 62) (r341.2) (p146_w (h) w (hI (h) (1) ((v3) + (1)).toNatClampNeg) ((((hI (h) (1) ((v3) + (2)).toNatClampNeg).toInt64) <<< ((32 : Int32).toInt64 &&& 63)) ||| (((hI (h) (1) ((v3) + (3)).toNatClampNeg).toInt64) &&& ((4294967295 : Int64)))) (hI (h) (1) ((v3) + (4)).toNatClampNeg) (hI (h) (1) ((v3) + (5)).toNatClampNeg)  r341 hr342) (hI (r341.2) (1) ((v3) + (1)).toNatClampNeg) ((((hI (r341.2) (1) ((v3) + (2)).toNatClampNeg).toInt64) <<< ((32 : Int32).toInt64 &&& 63)) ||| (((hI (r341.2) (1) ((v3) + (3)).toNatClampNeg).toInt64) &&& ((4294967295 : Int64)))) (hI (r341.2) (1) ((v3) + (4)).toNatClampNeg) (hI (r341.2) (1) ((v3) + (5)).toNatClampNeg) r348 hr349) ?_
  show ex _ 306 (1494, [some (.ref (1)), some (.ref (32)), some (.ref (86)), some (.int (v3))], [.int (r348.1), .int (r341.1)], r348.2) = _
  by_cases hc350 : (r341.1) = ((r348.1) : Int32)
  · rw [if_pos hc350] at hp
    refine e_icmp_eq_t f306_1494 hc350 ?_
    refine ex_weak (ls := [some (.ref (1)), some (.ref (32)), some (.ref (86)), some (.int (v3))]) (le2_ok ⟨Or.inr rfl, Or.inr rfl, Or.inr rfl, Or.inr rfl, trivial⟩) ?_
    exact p306_j2120_ok d F (K18) (hK18) (r348.2) ((p275_w (r341.2) (p146_w (h) w (hI (h) (1) ((v3) + (1)).toNatClampNeg) ((((hI (h) (1) ((v3) + (2)).toNatClampNeg).toInt64) <<< ((32 : Int32).toInt64 &&& 63)) ||| (((hI (h) (1) ((v3) + (3)).toNatClampNeg).toInt64) &&& ((4294967295 : Int64)))) (hI (h) (1) ((v3) + (4)).toNatClampNeg) (hI (h) (1) ((v3) + (5)).toNatClampNeg)  r341 hr342) (hI (r341.2) (1) ((v3) + (1)).toNatClampNeg) ((((hI (r341.2) (1) ((v3) + (2)).toNatClampNeg).toInt64) <<< ((32 : Int32).toInt64 &&& 63)) ||| (((hI (r341.2) (1) ((v3) + (3)).toNatClampNeg).toInt64) &&& ((4294967295 : Int64)))) (hI (r341.2) (1) ((v3) + (4)).toNatClampNeg) (hI (r341.2) (1) ((v3) + (5)).toNatClampNeg)  r348 hr349)) (v3) _ hp
  · rw [if_neg hc350] at hp
    refine e_icmp_eq_f f306_1494 hc350 ?_
    refine e_iconst (v := 0) f306_1497 (by decide) ?_
    have hp := Option.some.inj hp
    subst hp
    exact e_ireturn f306_1498 (by decide)
set_option maxRecDepth 100000 in
set_option maxHeartbeats 4000000 in
theorem p306_lb33_ok (d : Nat) (F : Nat) (K18 : HS → Int32 → Option (Int32 × HS)) (hK18 : ∀ (h : HS) (w : WF h) (u3 : Int32) (r : Int32 × HS), K18 h u3 = some r → ex (d + 66) 306 (18, [some (.ref (1)), some (.ref (32)), some (.ref (86)), some (.int (u3))], [], h) = some (some (.int (r.1)), r.2)) (h : HS) (w : WF h) (v3 : Int32) (r : Int32 × HS) (hp : lb33 F K18 h v3 = some r) : ex (d + 66) 306 (1499, [some (.ref (1)), some (.ref (32)), some (.ref (86)), some (.int (v3))], [], h) = some (some (.int (r.1)), r.2) := by
  unfold lb33 at hp
  refine e_aload_n f306_1499 rfl ?_
  refine e_aload_n f306_1500 rfl ?_
  refine e_iload_n f306_1501 rfl ?_
  refine e_iconst (v := 1) f306_1502 (by decide) ?_
  refine e_iadd f306_1503 ?_
  by_cases hg352 : ((v3) + (1)) < (0 : Int32) ∨ hN (h) (1) ≤ ((v3) + (1)).toNatClampNeg
  · rw [if_pos hg352] at hp; cases hp
  rw [if_neg hg352] at hp
  refine e_iaload f306_1504 (Or.inr (WF.x w 1 (by decide))) rfl hg352 ?_
  refine e_aload_n f306_1505 rfl ?_
  refine e_iload_n f306_1506 rfl ?_
  refine e_iconst (v := 2) f306_1507 (by decide) ?_
  refine e_iadd f306_1508 ?_
  by_cases hg353 : ((v3) + (2)) < (0 : Int32) ∨ hN (h) (1) ≤ ((v3) + (2)).toNatClampNeg
  · rw [if_pos hg353] at hp; cases hp
  rw [if_neg hg353] at hp
  refine e_iaload f306_1509 (Or.inr (WF.x w 1 (by decide))) rfl hg353 ?_
  by_cases hc354 : (hI (h) (1) ((v3) + (2)).toNatClampNeg) = (0 : Int32)
  · rw [if_pos hc354] at hp
    refine e_if_eq_t f306_1510 hc354 ?_
    refine e_iconst (v := 0) f306_1517 (by decide) ?_
    refine ex_weak (ls := [some (.ref (1)), some (.ref (32)), some (.ref (86)), some (.int (v3))]) (le2_ok ⟨Or.inr rfl, Or.inr rfl, Or.inr rfl, Or.inr rfl, trivial⟩) ?_
    exact p306_j1518_ok d F (K18) (hK18) (h) (w) (v3) (0) (hI (h) (1) ((v3) + (1)).toNatClampNeg) _ hp
  · rw [if_neg hc354] at hp
    refine e_if_eq_f f306_1510 hc354 ?_
    refine e_iconst (v := 1) f306_1513 (by decide) ?_
    refine e_goto f306_1514 ?_
    refine ex_weak (ls := [some (.ref (1)), some (.ref (32)), some (.ref (86)), some (.int (v3))]) (le2_ok ⟨Or.inr rfl, Or.inr rfl, Or.inr rfl, Or.inr rfl, trivial⟩) ?_
    exact p306_j1518_ok d F (K18) (hK18) (h) (w) (v3) (1) (hI (h) (1) ((v3) + (1)).toNatClampNeg) _ hp
set_option maxRecDepth 100000 in
set_option maxHeartbeats 4000000 in
theorem p306_lb34_ok (d : Nat) (F : Nat) (K18 : HS → Int32 → Option (Int32 × HS)) (hK18 : ∀ (h : HS) (w : WF h) (u3 : Int32) (r : Int32 × HS), K18 h u3 = some r → ex (d + 66) 306 (18, [some (.ref (1)), some (.ref (32)), some (.ref (86)), some (.int (u3))], [], h) = some (some (.int (r.1)), r.2)) (h : HS) (w : WF h) (v3 : Int32) (r : Int32 × HS) (hp : lb34 F K18 h v3 = some r) : ex (d + 66) 306 (1548, [some (.ref (1)), some (.ref (32)), some (.ref (86)), some (.int (v3))], [], h) = some (some (.int (r.1)), r.2) := by
  unfold lb34 at hp
  refine e_aload_n f306_1548 rfl ?_
  refine e_aload_n f306_1549 rfl ?_
  refine e_iload_n f306_1550 rfl ?_
  refine e_iconst (v := 1) f306_1551 (by decide) ?_
  refine e_iadd f306_1552 ?_
  by_cases hg356 : ((v3) + (1)) < (0 : Int32) ∨ hN (h) (1) ≤ ((v3) + (1)).toNatClampNeg
  · rw [if_pos hg356] at hp; cases hp
  rw [if_neg hg356] at hp
  refine e_iaload f306_1553 (Or.inr (WF.x w 1 (by decide))) rfl hg356 ?_
  refine e_aload_n f306_1554 rfl ?_
  refine e_iload_n f306_1555 rfl ?_
  refine e_iconst (v := 2) f306_1556 (by decide) ?_
  refine e_iadd f306_1557 ?_
  by_cases hg357 : ((v3) + (2)) < (0 : Int32) ∨ hN (h) (1) ≤ ((v3) + (2)).toNatClampNeg
  · rw [if_pos hg357] at hp; cases hp
  rw [if_neg hg357] at hp
  refine e_iaload f306_1558 (Or.inr (WF.x w 1 (by decide))) rfl hg357 ?_
  refine e_aload_n f306_1559 rfl ?_
  refine e_iload_n f306_1560 rfl ?_
  refine e_iconst (v := 3) f306_1561 (by decide) ?_
  refine e_iadd f306_1562 ?_
  by_cases hg358 : ((v3) + (3)) < (0 : Int32) ∨ hN (h) (1) ≤ ((v3) + (3)).toNatClampNeg
  · rw [if_pos hg358] at hp; cases hp
  rw [if_neg hg358] at hp
  refine e_iaload f306_1563 (Or.inr (WF.x w 1 (by decide))) rfl hg358 ?_
  obtain ⟨r359, hr360, hp⟩ := bind_some hp
  try dsimp only at hp
  refine e_callV (st := []) (o := 32) (as := [.int (hI (h) (1) ((v3) + (1)).toNatClampNeg), .int (hI (h) (1) ((v3) + (2)).toNatClampNeg), .int (hI (h) (1) ((v3) + (3)).toNatClampNeg)]) f306_1564 (by decide) rfl rfl (Nat.le_of_ble_eq_true rfl) (WF.t w 32 (by decide)) (Nat.le_of_ble_eq_true rfl) (p148_ok (d + 59) F (h) w (hI (h) (1) ((v3) + (1)).toNatClampNeg) (hI (h) (1) ((v3) + (2)).toNatClampNeg) (hI (h) (1) ((v3) + (3)).toNatClampNeg) r359 hr360) ?_
  show ex _ 306 (1567, [some (.ref (1)), some (.ref (32)), some (.ref (86)), some (.int (v3))], [.int (r359.1)], r359.2) = _
  refine e_aload_n f306_1567 rfl ?_
  refine e_aload_n f306_1568 rfl ?_
  refine e_iload_n f306_1569 rfl ?_
  refine e_iconst (v := 1) f306_1570 (by decide) ?_
  refine e_iadd f306_1571 ?_
  by_cases hg361 : ((v3) + (1)) < (0 : Int32) ∨ hN (r359.2) (1) ≤ ((v3) + (1)).toNatClampNeg
  · rw [if_pos hg361] at hp; cases hp
  rw [if_neg hg361] at hp
  refine e_iaload f306_1572 (Or.inr (WF.x (p148_w F (h) w (hI (h) (1) ((v3) + (1)).toNatClampNeg) (hI (h) (1) ((v3) + (2)).toNatClampNeg) (hI (h) (1) ((v3) + (3)).toNatClampNeg)  r359 hr360) 1 (by decide))) rfl hg361 ?_
  refine e_aload_n f306_1573 rfl ?_
  refine e_iload_n f306_1574 rfl ?_
  refine e_iconst (v := 2) f306_1575 (by decide) ?_
  refine e_iadd f306_1576 ?_
  by_cases hg362 : ((v3) + (2)) < (0 : Int32) ∨ hN (r359.2) (1) ≤ ((v3) + (2)).toNatClampNeg
  · rw [if_pos hg362] at hp; cases hp
  rw [if_neg hg362] at hp
  refine e_iaload f306_1577 (Or.inr (WF.x (p148_w F (h) w (hI (h) (1) ((v3) + (1)).toNatClampNeg) (hI (h) (1) ((v3) + (2)).toNatClampNeg) (hI (h) (1) ((v3) + (3)).toNatClampNeg)  r359 hr360) 1 (by decide))) rfl hg362 ?_
  refine e_aload_n f306_1578 rfl ?_
  refine e_iload_n f306_1579 rfl ?_
  refine e_iconst (v := 3) f306_1580 (by decide) ?_
  refine e_iadd f306_1581 ?_
  by_cases hg363 : ((v3) + (3)) < (0 : Int32) ∨ hN (r359.2) (1) ≤ ((v3) + (3)).toNatClampNeg
  · rw [if_pos hg363] at hp; cases hp
  rw [if_neg hg363] at hp
  refine e_iaload f306_1582 (Or.inr (WF.x (p148_w F (h) w (hI (h) (1) ((v3) + (1)).toNatClampNeg) (hI (h) (1) ((v3) + (2)).toNatClampNeg) (hI (h) (1) ((v3) + (3)).toNatClampNeg)  r359 hr360) 1 (by decide))) rfl hg363 ?_
  obtain ⟨r364, hr365, hp⟩ := bind_some hp
  try dsimp only at hp
  refine e_callV (st := [.int (r359.1)]) (o := 86) (as := [.int (hI (r359.2) (1) ((v3) + (1)).toNatClampNeg), .int (hI (r359.2) (1) ((v3) + (2)).toNatClampNeg), .int (hI (r359.2) (1) ((v3) + (3)).toNatClampNeg)]) f306_1583 (by decide) rfl rfl (Nat.le_of_ble_eq_true rfl) (WF.t (p148_w F (h) w (hI (h) (1) ((v3) + (1)).toNatClampNeg) (hI (h) (1) ((v3) + (2)).toNatClampNeg) (hI (h) (1) ((v3) + (3)).toNatClampNeg)  r359 hr360) 86 (by decide)) (Nat.le_of_ble_eq_true rfl) (p283_ok (d + 57) F (r359.2) (p148_w F (h) w (hI (h) (1) ((v3) + (1)).toNatClampNeg) (hI (h) (1) ((v3) + (2)).toNatClampNeg) (hI (h) (1) ((v3) + (3)).toNatClampNeg)  r359 hr360) (hI (r359.2) (1) ((v3) + (1)).toNatClampNeg) (hI (r359.2) (1) ((v3) + (2)).toNatClampNeg) (hI (r359.2) (1) ((v3) + (3)).toNatClampNeg) r364 hr365) ?_
  show ex _ 306 (1586, [some (.ref (1)), some (.ref (32)), some (.ref (86)), some (.int (v3))], [.int (r364.1), .int (r359.1)], r364.2) = _
  by_cases hc366 : (r359.1) = ((r364.1) : Int32)
  · rw [if_pos hc366] at hp
    refine e_icmp_eq_t f306_1586 hc366 ?_
    refine ex_weak (ls := [some (.ref (1)), some (.ref (32)), some (.ref (86)), some (.int (v3))]) (le2_ok ⟨Or.inr rfl, Or.inr rfl, Or.inr rfl, Or.inr rfl, trivial⟩) ?_
    exact p306_j2120_ok d F (K18) (hK18) (r364.2) ((p283_w F (r359.2) (p148_w F (h) w (hI (h) (1) ((v3) + (1)).toNatClampNeg) (hI (h) (1) ((v3) + (2)).toNatClampNeg) (hI (h) (1) ((v3) + (3)).toNatClampNeg)  r359 hr360) (hI (r359.2) (1) ((v3) + (1)).toNatClampNeg) (hI (r359.2) (1) ((v3) + (2)).toNatClampNeg) (hI (r359.2) (1) ((v3) + (3)).toNatClampNeg)  r364 hr365)) (v3) _ hp
  · rw [if_neg hc366] at hp
    refine e_icmp_eq_f f306_1586 hc366 ?_
    refine e_iconst (v := 0) f306_1589 (by decide) ?_
    have hp := Option.some.inj hp
    subst hp
    exact e_ireturn f306_1590 (by decide)
set_option maxRecDepth 100000 in
set_option maxHeartbeats 4000000 in
theorem p306_lb35_ok (d : Nat) (F : Nat) (K18 : HS → Int32 → Option (Int32 × HS)) (hK18 : ∀ (h : HS) (w : WF h) (u3 : Int32) (r : Int32 × HS), K18 h u3 = some r → ex (d + 66) 306 (18, [some (.ref (1)), some (.ref (32)), some (.ref (86)), some (.int (u3))], [], h) = some (some (.int (r.1)), r.2)) (h : HS) (w : WF h) (v3 : Int32) (r : Int32 × HS) (hp : lb35 F K18 h v3 = some r) : ex (d + 66) 306 (1591, [some (.ref (1)), some (.ref (32)), some (.ref (86)), some (.int (v3))], [], h) = some (some (.int (r.1)), r.2) := by
  unfold lb35 at hp
  refine e_aload_n f306_1591 rfl ?_
  obtain ⟨r368, hr369, hp⟩ := bind_some hp
  try dsimp only at hp
  refine e_callV (st := []) (o := 32) (as := []) f306_1592 (by decide) rfl rfl (Nat.le_of_ble_eq_true rfl) (WF.t w 32 (by decide)) (Nat.le_of_ble_eq_true rfl) (p149_ok (d + 65) (h) w r368 hr369) ?_
  show ex _ 306 (1595, [some (.ref (1)), some (.ref (32)), some (.ref (86)), some (.int (v3))], [.int (r368)], h) = _
  refine e_aload_n f306_1595 rfl ?_
  obtain ⟨r370, hr371, hp⟩ := bind_some hp
  try dsimp only at hp
  refine e_callV (st := [.int (r368)]) (o := 86) (as := []) f306_1596 (by decide) rfl rfl (Nat.le_of_ble_eq_true rfl) (WF.t w 86 (by decide)) (Nat.le_of_ble_eq_true rfl) (p284_ok (d + 65) (h) w r370 hr371) ?_
  show ex _ 306 (1599, [some (.ref (1)), some (.ref (32)), some (.ref (86)), some (.int (v3))], [.int (r370), .int (r368)], h) = _
  by_cases hc372 : (r368) = ((r370) : Int32)
  · rw [if_pos hc372] at hp
    refine e_icmp_eq_t f306_1599 hc372 ?_
    refine ex_weak (ls := [some (.ref (1)), some (.ref (32)), some (.ref (86)), some (.int (v3))]) (le2_ok ⟨Or.inr rfl, Or.inr rfl, Or.inr rfl, Or.inr rfl, trivial⟩) ?_
    exact p306_j2120_ok d F (K18) (hK18) (h) (w) (v3) _ hp
  · rw [if_neg hc372] at hp
    refine e_icmp_eq_f f306_1599 hc372 ?_
    refine e_iconst (v := 0) f306_1602 (by decide) ?_
    have hp := Option.some.inj hp
    subst hp
    exact e_ireturn f306_1603 (by decide)
set_option maxRecDepth 100000 in
set_option maxHeartbeats 4000000 in
theorem p306_lb36_ok (d : Nat) (F : Nat) (K18 : HS → Int32 → Option (Int32 × HS)) (hK18 : ∀ (h : HS) (w : WF h) (u3 : Int32) (r : Int32 × HS), K18 h u3 = some r → ex (d + 66) 306 (18, [some (.ref (1)), some (.ref (32)), some (.ref (86)), some (.int (u3))], [], h) = some (some (.int (r.1)), r.2)) (h : HS) (w : WF h) (v3 : Int32) (r : Int32 × HS) (hp : lb36 F K18 h v3 = some r) : ex (d + 66) 306 (1604, [some (.ref (1)), some (.ref (32)), some (.ref (86)), some (.int (v3))], [], h) = some (some (.int (r.1)), r.2) := by
  unfold lb36 at hp
  refine e_aload_n f306_1604 rfl ?_
  refine e_aload_n f306_1605 rfl ?_
  refine e_iload_n f306_1606 rfl ?_
  refine e_iconst (v := 1) f306_1607 (by decide) ?_
  refine e_iadd f306_1608 ?_
  by_cases hg374 : ((v3) + (1)) < (0 : Int32) ∨ hN (h) (1) ≤ ((v3) + (1)).toNatClampNeg
  · rw [if_pos hg374] at hp; cases hp
  rw [if_neg hg374] at hp
  refine e_iaload f306_1609 (Or.inr (WF.x w 1 (by decide))) rfl hg374 ?_
  refine e_aload_n f306_1610 rfl ?_
  refine e_iload_n f306_1611 rfl ?_
  refine e_iconst (v := 2) f306_1612 (by decide) ?_
  refine e_iadd f306_1613 ?_
  by_cases hg375 : ((v3) + (2)) < (0 : Int32) ∨ hN (h) (1) ≤ ((v3) + (2)).toNatClampNeg
  · rw [if_pos hg375] at hp; cases hp
  rw [if_neg hg375] at hp
  refine e_iaload f306_1614 (Or.inr (WF.x w 1 (by decide))) rfl hg375 ?_
  obtain ⟨r376, hr377, hp⟩ := bind_some hp
  try dsimp only at hp
  refine e_callV (st := []) (o := 32) (as := [.int (hI (h) (1) ((v3) + (1)).toNatClampNeg), .int (hI (h) (1) ((v3) + (2)).toNatClampNeg)]) f306_1615 (by decide) rfl rfl (Nat.le_of_ble_eq_true rfl) (WF.t w 32 (by decide)) (Nat.le_of_ble_eq_true rfl) (p150_ok (d + 62) (h) w (hI (h) (1) ((v3) + (1)).toNatClampNeg) (hI (h) (1) ((v3) + (2)).toNatClampNeg) r376 hr377) ?_
  show ex _ 306 (1618, [some (.ref (1)), some (.ref (32)), some (.ref (86)), some (.int (v3))], [.int (r376.1)], r376.2) = _
  refine e_aload_n f306_1618 rfl ?_
  refine e_aload_n f306_1619 rfl ?_
  refine e_iload_n f306_1620 rfl ?_
  refine e_iconst (v := 1) f306_1621 (by decide) ?_
  refine e_iadd f306_1622 ?_
  by_cases hg378 : ((v3) + (1)) < (0 : Int32) ∨ hN (r376.2) (1) ≤ ((v3) + (1)).toNatClampNeg
  · rw [if_pos hg378] at hp; cases hp
  rw [if_neg hg378] at hp
  refine e_iaload f306_1623 (Or.inr (WF.x (p150_w (h) w (hI (h) (1) ((v3) + (1)).toNatClampNeg) (hI (h) (1) ((v3) + (2)).toNatClampNeg)  r376 hr377) 1 (by decide))) rfl hg378 ?_
  refine e_aload_n f306_1624 rfl ?_
  refine e_iload_n f306_1625 rfl ?_
  refine e_iconst (v := 2) f306_1626 (by decide) ?_
  refine e_iadd f306_1627 ?_
  by_cases hg379 : ((v3) + (2)) < (0 : Int32) ∨ hN (r376.2) (1) ≤ ((v3) + (2)).toNatClampNeg
  · rw [if_pos hg379] at hp; cases hp
  rw [if_neg hg379] at hp
  refine e_iaload f306_1628 (Or.inr (WF.x (p150_w (h) w (hI (h) (1) ((v3) + (1)).toNatClampNeg) (hI (h) (1) ((v3) + (2)).toNatClampNeg)  r376 hr377) 1 (by decide))) rfl hg379 ?_
  obtain ⟨r380, hr381, hp⟩ := bind_some hp
  try dsimp only at hp
  refine e_callV (st := [.int (r376.1)]) (o := 86) (as := [.int (hI (r376.2) (1) ((v3) + (1)).toNatClampNeg), .int (hI (r376.2) (1) ((v3) + (2)).toNatClampNeg)]) f306_1629 (by decide) rfl rfl (Nat.le_of_ble_eq_true rfl) (WF.t (p150_w (h) w (hI (h) (1) ((v3) + (1)).toNatClampNeg) (hI (h) (1) ((v3) + (2)).toNatClampNeg)  r376 hr377) 86 (by decide)) (Nat.le_of_ble_eq_true rfl) (p285_ok (d + 62) (r376.2) (p150_w (h) w (hI (h) (1) ((v3) + (1)).toNatClampNeg) (hI (h) (1) ((v3) + (2)).toNatClampNeg)  r376 hr377) (hI (r376.2) (1) ((v3) + (1)).toNatClampNeg) (hI (r376.2) (1) ((v3) + (2)).toNatClampNeg) r380 hr381) ?_
  show ex _ 306 (1632, [some (.ref (1)), some (.ref (32)), some (.ref (86)), some (.int (v3))], [.int (r380.1), .int (r376.1)], r380.2) = _
  by_cases hc382 : (r376.1) = ((r380.1) : Int32)
  · rw [if_pos hc382] at hp
    refine e_icmp_eq_t f306_1632 hc382 ?_
    refine ex_weak (ls := [some (.ref (1)), some (.ref (32)), some (.ref (86)), some (.int (v3))]) (le2_ok ⟨Or.inr rfl, Or.inr rfl, Or.inr rfl, Or.inr rfl, trivial⟩) ?_
    exact p306_j2120_ok d F (K18) (hK18) (r380.2) ((p285_w (r376.2) (p150_w (h) w (hI (h) (1) ((v3) + (1)).toNatClampNeg) (hI (h) (1) ((v3) + (2)).toNatClampNeg)  r376 hr377) (hI (r376.2) (1) ((v3) + (1)).toNatClampNeg) (hI (r376.2) (1) ((v3) + (2)).toNatClampNeg)  r380 hr381)) (v3) _ hp
  · rw [if_neg hc382] at hp
    refine e_icmp_eq_f f306_1632 hc382 ?_
    refine e_iconst (v := 0) f306_1635 (by decide) ?_
    have hp := Option.some.inj hp
    subst hp
    exact e_ireturn f306_1636 (by decide)
set_option maxRecDepth 100000 in
set_option maxHeartbeats 4000000 in
theorem p306_lb37_ok (d : Nat) (F : Nat) (K18 : HS → Int32 → Option (Int32 × HS)) (hK18 : ∀ (h : HS) (w : WF h) (u3 : Int32) (r : Int32 × HS), K18 h u3 = some r → ex (d + 66) 306 (18, [some (.ref (1)), some (.ref (32)), some (.ref (86)), some (.int (u3))], [], h) = some (some (.int (r.1)), r.2)) (h : HS) (w : WF h) (v3 : Int32) (r : Int32 × HS) (hp : lb37 F K18 h v3 = some r) : ex (d + 66) 306 (1637, [some (.ref (1)), some (.ref (32)), some (.ref (86)), some (.int (v3))], [], h) = some (some (.int (r.1)), r.2) := by
  unfold lb37 at hp
  refine e_aload_n f306_1637 rfl ?_
  refine e_aload_n f306_1638 rfl ?_
  refine e_iload_n f306_1639 rfl ?_
  refine e_iconst (v := 1) f306_1640 (by decide) ?_
  refine e_iadd f306_1641 ?_
  by_cases hg384 : ((v3) + (1)) < (0 : Int32) ∨ hN (h) (1) ≤ ((v3) + (1)).toNatClampNeg
  · rw [if_pos hg384] at hp; cases hp
  rw [if_neg hg384] at hp
  refine e_iaload f306_1642 (Or.inr (WF.x w 1 (by decide))) rfl hg384 ?_
  obtain ⟨r385, hr386, hp⟩ := bind_some hp
  try dsimp only at hp
  refine e_callV (st := []) (o := 32) (as := [.int (hI (h) (1) ((v3) + (1)).toNatClampNeg)]) f306_1643 (by decide) rfl rfl (Nat.le_of_ble_eq_true rfl) (WF.t w 32 (by decide)) (Nat.le_of_ble_eq_true rfl) (p151_ok (d + 61) F (h) w (hI (h) (1) ((v3) + (1)).toNatClampNeg) r385 hr386) ?_
  show ex _ 306 (1646, [some (.ref (1)), some (.ref (32)), some (.ref (86)), some (.int (v3))], [.long (r385.1)], r385.2) = _
  refine e_aload_n f306_1646 rfl ?_
  refine e_aload_n f306_1647 rfl ?_
  refine e_iload_n f306_1648 rfl ?_
  refine e_iconst (v := 1) f306_1649 (by decide) ?_
  refine e_iadd f306_1650 ?_
  by_cases hg387 : ((v3) + (1)) < (0 : Int32) ∨ hN (r385.2) (1) ≤ ((v3) + (1)).toNatClampNeg
  · rw [if_pos hg387] at hp; cases hp
  rw [if_neg hg387] at hp
  refine e_iaload f306_1651 (Or.inr (WF.x (p151_w F (h) w (hI (h) (1) ((v3) + (1)).toNatClampNeg)  r385 hr386) 1 (by decide))) rfl hg387 ?_
  obtain ⟨r388, hr389, hp⟩ := bind_some hp
  try dsimp only at hp
  refine e_callV (st := [.long (r385.1)]) (o := 86) (as := [.int (hI (r385.2) (1) ((v3) + (1)).toNatClampNeg)]) f306_1652 (by decide) rfl rfl (Nat.le_of_ble_eq_true rfl) (WF.t (p151_w F (h) w (hI (h) (1) ((v3) + (1)).toNatClampNeg)  r385 hr386) 86 (by decide)) (Nat.le_of_ble_eq_true rfl) (p287_ok (d + 60) F (r385.2) (p151_w F (h) w (hI (h) (1) ((v3) + (1)).toNatClampNeg)  r385 hr386) (hI (r385.2) (1) ((v3) + (1)).toNatClampNeg) r388 hr389) ?_
  show ex _ 306 (1655, [some (.ref (1)), some (.ref (32)), some (.ref (86)), some (.int (v3))], [.long (r388.1), .long (r385.1)], r388.2) = _
  refine e_lcmp f306_1655 ?_
  by_cases hc390 : (lg_cmp (r385.1) (r388.1)) = (0 : Int32)
  · rw [if_pos hc390] at hp
    refine e_if_eq_t f306_1656 hc390 ?_
    refine ex_weak (ls := [some (.ref (1)), some (.ref (32)), some (.ref (86)), some (.int (v3))]) (le2_ok ⟨Or.inr rfl, Or.inr rfl, Or.inr rfl, Or.inr rfl, trivial⟩) ?_
    exact p306_j2120_ok d F (K18) (hK18) (r388.2) ((p287_w F (r385.2) (p151_w F (h) w (hI (h) (1) ((v3) + (1)).toNatClampNeg)  r385 hr386) (hI (r385.2) (1) ((v3) + (1)).toNatClampNeg)  r388 hr389)) (v3) _ hp
  · rw [if_neg hc390] at hp
    refine e_if_eq_f f306_1656 hc390 ?_
    refine e_iconst (v := 0) f306_1659 (by decide) ?_
    have hp := Option.some.inj hp
    subst hp
    exact e_ireturn f306_1660 (by decide)
set_option maxRecDepth 100000 in
set_option maxHeartbeats 4000000 in
theorem p306_lb38_ok (d : Nat) (F : Nat) (K18 : HS → Int32 → Option (Int32 × HS)) (hK18 : ∀ (h : HS) (w : WF h) (u3 : Int32) (r : Int32 × HS), K18 h u3 = some r → ex (d + 66) 306 (18, [some (.ref (1)), some (.ref (32)), some (.ref (86)), some (.int (u3))], [], h) = some (some (.int (r.1)), r.2)) (h : HS) (w : WF h) (v3 : Int32) (r : Int32 × HS) (hp : lb38 F K18 h v3 = some r) : ex (d + 66) 306 (1661, [some (.ref (1)), some (.ref (32)), some (.ref (86)), some (.int (v3))], [], h) = some (some (.int (r.1)), r.2) := by
  unfold lb38 at hp
  refine e_aload_n f306_1661 rfl ?_
  obtain ⟨r392, hr393, hp⟩ := bind_some hp
  try dsimp only at hp
  refine e_callV (st := []) (o := 32) (as := []) f306_1662 (by decide) rfl rfl (Nat.le_of_ble_eq_true rfl) (WF.t w 32 (by decide)) (Nat.le_of_ble_eq_true rfl) (p152_ok (d + 58) F (h) w r392 hr393) ?_
  show ex _ 306 (1665, [some (.ref (1)), some (.ref (32)), some (.ref (86)), some (.int (v3))], [.int (r392.1)], r392.2) = _
  refine e_aload_n f306_1665 rfl ?_
  obtain ⟨r394, hr395, hp⟩ := bind_some hp
  try dsimp only at hp
  refine e_callV (st := [.int (r392.1)]) (o := 86) (as := []) f306_1666 (by decide) rfl rfl (Nat.le_of_ble_eq_true rfl) (WF.t (p152_w F (h) w  r392 hr393) 86 (by decide)) (Nat.le_of_ble_eq_true rfl) (p288_ok (d + 57) F (r392.2) (p152_w F (h) w  r392 hr393) r394 hr395) ?_
  show ex _ 306 (1669, [some (.ref (1)), some (.ref (32)), some (.ref (86)), some (.int (v3))], [.int (r394.1), .int (r392.1)], r394.2) = _
  by_cases hc396 : (r392.1) = ((r394.1) : Int32)
  · rw [if_pos hc396] at hp
    refine e_icmp_eq_t f306_1669 hc396 ?_
    refine ex_weak (ls := [some (.ref (1)), some (.ref (32)), some (.ref (86)), some (.int (v3))]) (le2_ok ⟨Or.inr rfl, Or.inr rfl, Or.inr rfl, Or.inr rfl, trivial⟩) ?_
    exact p306_j2120_ok d F (K18) (hK18) (r394.2) ((p288_w F (r392.2) (p152_w F (h) w  r392 hr393)  r394 hr395)) (v3) _ hp
  · rw [if_neg hc396] at hp
    refine e_icmp_eq_f f306_1669 hc396 ?_
    refine e_iconst (v := 0) f306_1672 (by decide) ?_
    have hp := Option.some.inj hp
    subst hp
    exact e_ireturn f306_1673 (by decide)
set_option maxRecDepth 100000 in
set_option maxHeartbeats 4000000 in
theorem p306_lb39_ok (d : Nat) (F : Nat) (K18 : HS → Int32 → Option (Int32 × HS)) (hK18 : ∀ (h : HS) (w : WF h) (u3 : Int32) (r : Int32 × HS), K18 h u3 = some r → ex (d + 66) 306 (18, [some (.ref (1)), some (.ref (32)), some (.ref (86)), some (.int (u3))], [], h) = some (some (.int (r.1)), r.2)) (h : HS) (w : WF h) (v3 : Int32) (r : Int32 × HS) (hp : lb39 F K18 h v3 = some r) : ex (d + 66) 306 (1674, [some (.ref (1)), some (.ref (32)), some (.ref (86)), some (.int (v3))], [], h) = some (some (.int (r.1)), r.2) := by
  unfold lb39 at hp
  refine e_aload_n f306_1674 rfl ?_
  refine e_aload_n f306_1675 rfl ?_
  refine e_iload_n f306_1676 rfl ?_
  refine e_iconst (v := 1) f306_1677 (by decide) ?_
  refine e_iadd f306_1678 ?_
  by_cases hg398 : ((v3) + (1)) < (0 : Int32) ∨ hN (h) (1) ≤ ((v3) + (1)).toNatClampNeg
  · rw [if_pos hg398] at hp; cases hp
  rw [if_neg hg398] at hp
  refine e_iaload f306_1679 (Or.inr (WF.x w 1 (by decide))) rfl hg398 ?_
  refine e_aload_n f306_1680 rfl ?_
  refine e_iload_n f306_1681 rfl ?_
  refine e_iconst (v := 2) f306_1682 (by decide) ?_
  refine e_iadd f306_1683 ?_
  by_cases hg399 : ((v3) + (2)) < (0 : Int32) ∨ hN (h) (1) ≤ ((v3) + (2)).toNatClampNeg
  · rw [if_pos hg399] at hp; cases hp
  rw [if_neg hg399] at hp
  refine e_iaload f306_1684 (Or.inr (WF.x w 1 (by decide))) rfl hg399 ?_
  refine e_aload_n f306_1685 rfl ?_
  refine e_iload_n f306_1686 rfl ?_
  refine e_iconst (v := 3) f306_1687 (by decide) ?_
  refine e_iadd f306_1688 ?_
  by_cases hg400 : ((v3) + (3)) < (0 : Int32) ∨ hN (h) (1) ≤ ((v3) + (3)).toNatClampNeg
  · rw [if_pos hg400] at hp; cases hp
  rw [if_neg hg400] at hp
  refine e_iaload f306_1689 (Or.inr (WF.x w 1 (by decide))) rfl hg400 ?_
  obtain ⟨r401, hr402, hp⟩ := bind_some hp
  try dsimp only at hp
  refine e_callV (st := []) (o := 32) (as := [.int (hI (h) (1) ((v3) + (1)).toNatClampNeg), .int (hI (h) (1) ((v3) + (2)).toNatClampNeg), .int (hI (h) (1) ((v3) + (3)).toNatClampNeg)]) f306_1690 (by decide) rfl rfl (Nat.le_of_ble_eq_true rfl) (WF.t w 32 (by decide)) (Nat.le_of_ble_eq_true rfl) (p153_ok (d + 63) (h) w (hI (h) (1) ((v3) + (1)).toNatClampNeg) (hI (h) (1) ((v3) + (2)).toNatClampNeg) (hI (h) (1) ((v3) + (3)).toNatClampNeg) r401 hr402) ?_
  show ex _ 306 (1693, [some (.ref (1)), some (.ref (32)), some (.ref (86)), some (.int (v3))], [.int (r401)], h) = _
  refine e_aload_n f306_1693 rfl ?_
  refine e_aload_n f306_1694 rfl ?_
  refine e_iload_n f306_1695 rfl ?_
  refine e_iconst (v := 1) f306_1696 (by decide) ?_
  refine e_iadd f306_1697 ?_
  by_cases hg403 : ((v3) + (1)) < (0 : Int32) ∨ hN (h) (1) ≤ ((v3) + (1)).toNatClampNeg
  · rw [if_pos hg403] at hp; cases hp
  rw [if_neg hg403] at hp
  refine e_iaload f306_1698 (Or.inr (WF.x w 1 (by decide))) rfl hg403 ?_
  refine e_aload_n f306_1699 rfl ?_
  refine e_iload_n f306_1700 rfl ?_
  refine e_iconst (v := 2) f306_1701 (by decide) ?_
  refine e_iadd f306_1702 ?_
  by_cases hg404 : ((v3) + (2)) < (0 : Int32) ∨ hN (h) (1) ≤ ((v3) + (2)).toNatClampNeg
  · rw [if_pos hg404] at hp; cases hp
  rw [if_neg hg404] at hp
  refine e_iaload f306_1703 (Or.inr (WF.x w 1 (by decide))) rfl hg404 ?_
  refine e_aload_n f306_1704 rfl ?_
  refine e_iload_n f306_1705 rfl ?_
  refine e_iconst (v := 3) f306_1706 (by decide) ?_
  refine e_iadd f306_1707 ?_
  by_cases hg405 : ((v3) + (3)) < (0 : Int32) ∨ hN (h) (1) ≤ ((v3) + (3)).toNatClampNeg
  · rw [if_pos hg405] at hp; cases hp
  rw [if_neg hg405] at hp
  refine e_iaload f306_1708 (Or.inr (WF.x w 1 (by decide))) rfl hg405 ?_
  obtain ⟨r406, hr407, hp⟩ := bind_some hp
  try dsimp only at hp
  refine e_callV (st := [.int (r401)]) (o := 86) (as := [.int (hI (h) (1) ((v3) + (1)).toNatClampNeg), .int (hI (h) (1) ((v3) + (2)).toNatClampNeg), .int (hI (h) (1) ((v3) + (3)).toNatClampNeg)]) f306_1709 (by decide) rfl rfl (Nat.le_of_ble_eq_true rfl) (WF.t w 86 (by decide)) (Nat.le_of_ble_eq_true rfl) (p289_ok (d + 62) (h) w (hI (h) (1) ((v3) + (1)).toNatClampNeg) (hI (h) (1) ((v3) + (2)).toNatClampNeg) (hI (h) (1) ((v3) + (3)).toNatClampNeg) r406 hr407) ?_
  show ex _ 306 (1712, [some (.ref (1)), some (.ref (32)), some (.ref (86)), some (.int (v3))], [.int (r406), .int (r401)], h) = _
  by_cases hc408 : (r401) = ((r406) : Int32)
  · rw [if_pos hc408] at hp
    refine e_icmp_eq_t f306_1712 hc408 ?_
    refine ex_weak (ls := [some (.ref (1)), some (.ref (32)), some (.ref (86)), some (.int (v3))]) (le2_ok ⟨Or.inr rfl, Or.inr rfl, Or.inr rfl, Or.inr rfl, trivial⟩) ?_
    exact p306_j2120_ok d F (K18) (hK18) (h) (w) (v3) _ hp
  · rw [if_neg hc408] at hp
    refine e_icmp_eq_f f306_1712 hc408 ?_
    refine e_iconst (v := 0) f306_1715 (by decide) ?_
    have hp := Option.some.inj hp
    subst hp
    exact e_ireturn f306_1716 (by decide)
set_option maxRecDepth 100000 in
set_option maxHeartbeats 4000000 in
theorem p306_lb40_ok (d : Nat) (F : Nat) (K18 : HS → Int32 → Option (Int32 × HS)) (hK18 : ∀ (h : HS) (w : WF h) (u3 : Int32) (r : Int32 × HS), K18 h u3 = some r → ex (d + 66) 306 (18, [some (.ref (1)), some (.ref (32)), some (.ref (86)), some (.int (u3))], [], h) = some (some (.int (r.1)), r.2)) (h : HS) (w : WF h) (v3 : Int32) (r : Int32 × HS) (hp : lb40 F K18 h v3 = some r) : ex (d + 66) 306 (1717, [some (.ref (1)), some (.ref (32)), some (.ref (86)), some (.int (v3))], [], h) = some (some (.int (r.1)), r.2) := by
  unfold lb40 at hp
  refine e_aload_n f306_1717 rfl ?_
  refine e_aload_n f306_1718 rfl ?_
  refine e_iload_n f306_1719 rfl ?_
  refine e_iconst (v := 1) f306_1720 (by decide) ?_
  refine e_iadd f306_1721 ?_
  by_cases hg410 : ((v3) + (1)) < (0 : Int32) ∨ hN (h) (1) ≤ ((v3) + (1)).toNatClampNeg
  · rw [if_pos hg410] at hp; cases hp
  rw [if_neg hg410] at hp
  refine e_iaload f306_1722 (Or.inr (WF.x w 1 (by decide))) rfl hg410 ?_
  refine e_aload_n f306_1723 rfl ?_
  refine e_iload_n f306_1724 rfl ?_
  refine e_iconst (v := 2) f306_1725 (by decide) ?_
  refine e_iadd f306_1726 ?_
  by_cases hg411 : ((v3) + (2)) < (0 : Int32) ∨ hN (h) (1) ≤ ((v3) + (2)).toNatClampNeg
  · rw [if_pos hg411] at hp; cases hp
  rw [if_neg hg411] at hp
  refine e_iaload f306_1727 (Or.inr (WF.x w 1 (by decide))) rfl hg411 ?_
  refine e_aload_n f306_1728 rfl ?_
  refine e_iload_n f306_1729 rfl ?_
  refine e_iconst (v := 3) f306_1730 (by decide) ?_
  refine e_iadd f306_1731 ?_
  by_cases hg412 : ((v3) + (3)) < (0 : Int32) ∨ hN (h) (1) ≤ ((v3) + (3)).toNatClampNeg
  · rw [if_pos hg412] at hp; cases hp
  rw [if_neg hg412] at hp
  refine e_iaload f306_1732 (Or.inr (WF.x w 1 (by decide))) rfl hg412 ?_
  obtain ⟨r413, hr414, hp⟩ := bind_some hp
  try dsimp only at hp
  refine e_callV (st := []) (o := 32) (as := [.int (hI (h) (1) ((v3) + (1)).toNatClampNeg), .int (hI (h) (1) ((v3) + (2)).toNatClampNeg), .int (hI (h) (1) ((v3) + (3)).toNatClampNeg)]) f306_1733 (by decide) rfl rfl (Nat.le_of_ble_eq_true rfl) (WF.t w 32 (by decide)) (Nat.le_of_ble_eq_true rfl) (p154_ok (d + 62) F (h) w (hI (h) (1) ((v3) + (1)).toNatClampNeg) (hI (h) (1) ((v3) + (2)).toNatClampNeg) (hI (h) (1) ((v3) + (3)).toNatClampNeg) r413 hr414) ?_
  show ex _ 306 (1736, [some (.ref (1)), some (.ref (32)), some (.ref (86)), some (.int (v3))], [.int (r413)], h) = _
  refine e_aload_n f306_1736 rfl ?_
  refine e_aload_n f306_1737 rfl ?_
  refine e_iload_n f306_1738 rfl ?_
  refine e_iconst (v := 1) f306_1739 (by decide) ?_
  refine e_iadd f306_1740 ?_
  by_cases hg415 : ((v3) + (1)) < (0 : Int32) ∨ hN (h) (1) ≤ ((v3) + (1)).toNatClampNeg
  · rw [if_pos hg415] at hp; cases hp
  rw [if_neg hg415] at hp
  refine e_iaload f306_1741 (Or.inr (WF.x w 1 (by decide))) rfl hg415 ?_
  refine e_aload_n f306_1742 rfl ?_
  refine e_iload_n f306_1743 rfl ?_
  refine e_iconst (v := 2) f306_1744 (by decide) ?_
  refine e_iadd f306_1745 ?_
  by_cases hg416 : ((v3) + (2)) < (0 : Int32) ∨ hN (h) (1) ≤ ((v3) + (2)).toNatClampNeg
  · rw [if_pos hg416] at hp; cases hp
  rw [if_neg hg416] at hp
  refine e_iaload f306_1746 (Or.inr (WF.x w 1 (by decide))) rfl hg416 ?_
  refine e_aload_n f306_1747 rfl ?_
  refine e_iload_n f306_1748 rfl ?_
  refine e_iconst (v := 3) f306_1749 (by decide) ?_
  refine e_iadd f306_1750 ?_
  by_cases hg417 : ((v3) + (3)) < (0 : Int32) ∨ hN (h) (1) ≤ ((v3) + (3)).toNatClampNeg
  · rw [if_pos hg417] at hp; cases hp
  rw [if_neg hg417] at hp
  refine e_iaload f306_1751 (Or.inr (WF.x w 1 (by decide))) rfl hg417 ?_
  obtain ⟨r418, hr419, hp⟩ := bind_some hp
  try dsimp only at hp
  refine e_callV (st := [.int (r413)]) (o := 86) (as := [.int (hI (h) (1) ((v3) + (1)).toNatClampNeg), .int (hI (h) (1) ((v3) + (2)).toNatClampNeg), .int (hI (h) (1) ((v3) + (3)).toNatClampNeg)]) f306_1752 (by decide) rfl rfl (Nat.le_of_ble_eq_true rfl) (WF.t w 86 (by decide)) (Nat.le_of_ble_eq_true rfl) (p291_ok (d + 62) F (h) w (hI (h) (1) ((v3) + (1)).toNatClampNeg) (hI (h) (1) ((v3) + (2)).toNatClampNeg) (hI (h) (1) ((v3) + (3)).toNatClampNeg) r418 hr419) ?_
  show ex _ 306 (1755, [some (.ref (1)), some (.ref (32)), some (.ref (86)), some (.int (v3))], [.int (r418.1), .int (r413)], r418.2) = _
  by_cases hc420 : (r413) = ((r418.1) : Int32)
  · rw [if_pos hc420] at hp
    refine e_icmp_eq_t f306_1755 hc420 ?_
    refine ex_weak (ls := [some (.ref (1)), some (.ref (32)), some (.ref (86)), some (.int (v3))]) (le2_ok ⟨Or.inr rfl, Or.inr rfl, Or.inr rfl, Or.inr rfl, trivial⟩) ?_
    exact p306_j2120_ok d F (K18) (hK18) (r418.2) ((p291_w F (h) w (hI (h) (1) ((v3) + (1)).toNatClampNeg) (hI (h) (1) ((v3) + (2)).toNatClampNeg) (hI (h) (1) ((v3) + (3)).toNatClampNeg)  r418 hr419)) (v3) _ hp
  · rw [if_neg hc420] at hp
    refine e_icmp_eq_f f306_1755 hc420 ?_
    refine e_iconst (v := 0) f306_1758 (by decide) ?_
    have hp := Option.some.inj hp
    subst hp
    exact e_ireturn f306_1759 (by decide)
set_option maxRecDepth 100000 in
set_option maxHeartbeats 4000000 in
theorem p306_lb41_ok (d : Nat) (F : Nat) (K18 : HS → Int32 → Option (Int32 × HS)) (hK18 : ∀ (h : HS) (w : WF h) (u3 : Int32) (r : Int32 × HS), K18 h u3 = some r → ex (d + 66) 306 (18, [some (.ref (1)), some (.ref (32)), some (.ref (86)), some (.int (u3))], [], h) = some (some (.int (r.1)), r.2)) (h : HS) (w : WF h) (v3 : Int32) (r : Int32 × HS) (hp : lb41 F K18 h v3 = some r) : ex (d + 66) 306 (1760, [some (.ref (1)), some (.ref (32)), some (.ref (86)), some (.int (v3))], [], h) = some (some (.int (r.1)), r.2) := by
  unfold lb41 at hp
  refine e_aload_n f306_1760 rfl ?_
  refine e_aload_n f306_1761 rfl ?_
  refine e_iload_n f306_1762 rfl ?_
  refine e_iconst (v := 1) f306_1763 (by decide) ?_
  refine e_iadd f306_1764 ?_
  by_cases hg422 : ((v3) + (1)) < (0 : Int32) ∨ hN (h) (1) ≤ ((v3) + (1)).toNatClampNeg
  · rw [if_pos hg422] at hp; cases hp
  rw [if_neg hg422] at hp
  refine e_iaload f306_1765 (Or.inr (WF.x w 1 (by decide))) rfl hg422 ?_
  refine e_aload_n f306_1766 rfl ?_
  refine e_iload_n f306_1767 rfl ?_
  refine e_iconst (v := 2) f306_1768 (by decide) ?_
  refine e_iadd f306_1769 ?_
  by_cases hg423 : ((v3) + (2)) < (0 : Int32) ∨ hN (h) (1) ≤ ((v3) + (2)).toNatClampNeg
  · rw [if_pos hg423] at hp; cases hp
  rw [if_neg hg423] at hp
  refine e_iaload f306_1770 (Or.inr (WF.x w 1 (by decide))) rfl hg423 ?_
  obtain ⟨r424, hr425, hp⟩ := bind_some hp
  try dsimp only at hp
  refine e_callV (st := []) (o := 32) (as := [.int (hI (h) (1) ((v3) + (1)).toNatClampNeg), .int (hI (h) (1) ((v3) + (2)).toNatClampNeg)]) f306_1771 (by decide) rfl rfl (Nat.le_of_ble_eq_true rfl) (WF.t w 32 (by decide)) (Nat.le_of_ble_eq_true rfl) (p155_ok (d + 63) (h) w (hI (h) (1) ((v3) + (1)).toNatClampNeg) (hI (h) (1) ((v3) + (2)).toNatClampNeg) r424 hr425) ?_
  show ex _ 306 (1774, [some (.ref (1)), some (.ref (32)), some (.ref (86)), some (.int (v3))], [.int (r424.1)], r424.2) = _
  refine e_aload_n f306_1774 rfl ?_
  refine e_aload_n f306_1775 rfl ?_
  refine e_iload_n f306_1776 rfl ?_
  refine e_iconst (v := 1) f306_1777 (by decide) ?_
  refine e_iadd f306_1778 ?_
  by_cases hg426 : ((v3) + (1)) < (0 : Int32) ∨ hN (r424.2) (1) ≤ ((v3) + (1)).toNatClampNeg
  · rw [if_pos hg426] at hp; cases hp
  rw [if_neg hg426] at hp
  refine e_iaload f306_1779 (Or.inr (WF.x (p155_w (h) w (hI (h) (1) ((v3) + (1)).toNatClampNeg) (hI (h) (1) ((v3) + (2)).toNatClampNeg)  r424 hr425) 1 (by decide))) rfl hg426 ?_
  refine e_aload_n f306_1780 rfl ?_
  refine e_iload_n f306_1781 rfl ?_
  refine e_iconst (v := 2) f306_1782 (by decide) ?_
  refine e_iadd f306_1783 ?_
  by_cases hg427 : ((v3) + (2)) < (0 : Int32) ∨ hN (r424.2) (1) ≤ ((v3) + (2)).toNatClampNeg
  · rw [if_pos hg427] at hp; cases hp
  rw [if_neg hg427] at hp
  refine e_iaload f306_1784 (Or.inr (WF.x (p155_w (h) w (hI (h) (1) ((v3) + (1)).toNatClampNeg) (hI (h) (1) ((v3) + (2)).toNatClampNeg)  r424 hr425) 1 (by decide))) rfl hg427 ?_
  obtain ⟨r428, hr429, hp⟩ := bind_some hp
  try dsimp only at hp
  refine e_callV (st := [.int (r424.1)]) (o := 86) (as := [.int (hI (r424.2) (1) ((v3) + (1)).toNatClampNeg), .int (hI (r424.2) (1) ((v3) + (2)).toNatClampNeg)]) f306_1785 (by decide) rfl rfl (Nat.le_of_ble_eq_true rfl) (WF.t (p155_w (h) w (hI (h) (1) ((v3) + (1)).toNatClampNeg) (hI (h) (1) ((v3) + (2)).toNatClampNeg)  r424 hr425) 86 (by decide)) (Nat.le_of_ble_eq_true rfl) (p292_ok (d + 63) (r424.2) (p155_w (h) w (hI (h) (1) ((v3) + (1)).toNatClampNeg) (hI (h) (1) ((v3) + (2)).toNatClampNeg)  r424 hr425) (hI (r424.2) (1) ((v3) + (1)).toNatClampNeg) (hI (r424.2) (1) ((v3) + (2)).toNatClampNeg) r428 hr429) ?_
  show ex _ 306 (1788, [some (.ref (1)), some (.ref (32)), some (.ref (86)), some (.int (v3))], [.int (r428.1), .int (r424.1)], r428.2) = _
  by_cases hc430 : (r424.1) = ((r428.1) : Int32)
  · rw [if_pos hc430] at hp
    refine e_icmp_eq_t f306_1788 hc430 ?_
    refine ex_weak (ls := [some (.ref (1)), some (.ref (32)), some (.ref (86)), some (.int (v3))]) (le2_ok ⟨Or.inr rfl, Or.inr rfl, Or.inr rfl, Or.inr rfl, trivial⟩) ?_
    exact p306_j2120_ok d F (K18) (hK18) (r428.2) ((p292_w (r424.2) (p155_w (h) w (hI (h) (1) ((v3) + (1)).toNatClampNeg) (hI (h) (1) ((v3) + (2)).toNatClampNeg)  r424 hr425) (hI (r424.2) (1) ((v3) + (1)).toNatClampNeg) (hI (r424.2) (1) ((v3) + (2)).toNatClampNeg)  r428 hr429)) (v3) _ hp
  · rw [if_neg hc430] at hp
    refine e_icmp_eq_f f306_1788 hc430 ?_
    refine e_iconst (v := 0) f306_1791 (by decide) ?_
    have hp := Option.some.inj hp
    subst hp
    exact e_ireturn f306_1792 (by decide)
set_option maxRecDepth 100000 in
set_option maxHeartbeats 4000000 in
theorem p306_lb42_ok (d : Nat) (F : Nat) (K18 : HS → Int32 → Option (Int32 × HS)) (hK18 : ∀ (h : HS) (w : WF h) (u3 : Int32) (r : Int32 × HS), K18 h u3 = some r → ex (d + 66) 306 (18, [some (.ref (1)), some (.ref (32)), some (.ref (86)), some (.int (u3))], [], h) = some (some (.int (r.1)), r.2)) (h : HS) (w : WF h) (v3 : Int32) (r : Int32 × HS) (hp : lb42 F K18 h v3 = some r) : ex (d + 66) 306 (1793, [some (.ref (1)), some (.ref (32)), some (.ref (86)), some (.int (v3))], [], h) = some (some (.int (r.1)), r.2) := by
  unfold lb42 at hp
  refine e_aload_n f306_1793 rfl ?_
  refine e_aload_n f306_1794 rfl ?_
  refine e_iload_n f306_1795 rfl ?_
  refine e_iconst (v := 1) f306_1796 (by decide) ?_
  refine e_iadd f306_1797 ?_
  by_cases hg432 : ((v3) + (1)) < (0 : Int32) ∨ hN (h) (1) ≤ ((v3) + (1)).toNatClampNeg
  · rw [if_pos hg432] at hp; cases hp
  rw [if_neg hg432] at hp
  refine e_iaload f306_1798 (Or.inr (WF.x w 1 (by decide))) rfl hg432 ?_
  refine e_aload_n f306_1799 rfl ?_
  refine e_iload_n f306_1800 rfl ?_
  refine e_iconst (v := 2) f306_1801 (by decide) ?_
  refine e_iadd f306_1802 ?_
  by_cases hg433 : ((v3) + (2)) < (0 : Int32) ∨ hN (h) (1) ≤ ((v3) + (2)).toNatClampNeg
  · rw [if_pos hg433] at hp; cases hp
  rw [if_neg hg433] at hp
  refine e_iaload f306_1803 (Or.inr (WF.x w 1 (by decide))) rfl hg433 ?_
  obtain ⟨r434, hr435, hp⟩ := bind_some hp
  try dsimp only at hp
  refine e_callV (st := []) (o := 32) (as := [.int (hI (h) (1) ((v3) + (1)).toNatClampNeg), .int (hI (h) (1) ((v3) + (2)).toNatClampNeg)]) f306_1804 (by decide) rfl rfl (Nat.le_of_ble_eq_true rfl) (WF.t w 32 (by decide)) (Nat.le_of_ble_eq_true rfl) (p156_ok (d + 60) F (h) w (hI (h) (1) ((v3) + (1)).toNatClampNeg) (hI (h) (1) ((v3) + (2)).toNatClampNeg) r434 hr435) ?_
  show ex _ 306 (1807, [some (.ref (1)), some (.ref (32)), some (.ref (86)), some (.int (v3))], [.int (r434.1)], r434.2) = _
  refine e_aload_n f306_1807 rfl ?_
  refine e_aload_n f306_1808 rfl ?_
  refine e_iload_n f306_1809 rfl ?_
  refine e_iconst (v := 1) f306_1810 (by decide) ?_
  refine e_iadd f306_1811 ?_
  by_cases hg436 : ((v3) + (1)) < (0 : Int32) ∨ hN (r434.2) (1) ≤ ((v3) + (1)).toNatClampNeg
  · rw [if_pos hg436] at hp; cases hp
  rw [if_neg hg436] at hp
  refine e_iaload f306_1812 (Or.inr (WF.x (p156_w F (h) w (hI (h) (1) ((v3) + (1)).toNatClampNeg) (hI (h) (1) ((v3) + (2)).toNatClampNeg)  r434 hr435) 1 (by decide))) rfl hg436 ?_
  refine e_aload_n f306_1813 rfl ?_
  refine e_iload_n f306_1814 rfl ?_
  refine e_iconst (v := 2) f306_1815 (by decide) ?_
  refine e_iadd f306_1816 ?_
  by_cases hg437 : ((v3) + (2)) < (0 : Int32) ∨ hN (r434.2) (1) ≤ ((v3) + (2)).toNatClampNeg
  · rw [if_pos hg437] at hp; cases hp
  rw [if_neg hg437] at hp
  refine e_iaload f306_1817 (Or.inr (WF.x (p156_w F (h) w (hI (h) (1) ((v3) + (1)).toNatClampNeg) (hI (h) (1) ((v3) + (2)).toNatClampNeg)  r434 hr435) 1 (by decide))) rfl hg437 ?_
  obtain ⟨r438, hr439, hp⟩ := bind_some hp
  try dsimp only at hp
  refine e_callV (st := [.int (r434.1)]) (o := 86) (as := [.int (hI (r434.2) (1) ((v3) + (1)).toNatClampNeg), .int (hI (r434.2) (1) ((v3) + (2)).toNatClampNeg)]) f306_1818 (by decide) rfl rfl (Nat.le_of_ble_eq_true rfl) (WF.t (p156_w F (h) w (hI (h) (1) ((v3) + (1)).toNatClampNeg) (hI (h) (1) ((v3) + (2)).toNatClampNeg)  r434 hr435) 86 (by decide)) (Nat.le_of_ble_eq_true rfl) (p296_ok (d + 59) F (r434.2) (p156_w F (h) w (hI (h) (1) ((v3) + (1)).toNatClampNeg) (hI (h) (1) ((v3) + (2)).toNatClampNeg)  r434 hr435) (hI (r434.2) (1) ((v3) + (1)).toNatClampNeg) (hI (r434.2) (1) ((v3) + (2)).toNatClampNeg) r438 hr439) ?_
  show ex _ 306 (1821, [some (.ref (1)), some (.ref (32)), some (.ref (86)), some (.int (v3))], [.int (r438.1), .int (r434.1)], r438.2) = _
  by_cases hc440 : (r434.1) = ((r438.1) : Int32)
  · rw [if_pos hc440] at hp
    refine e_icmp_eq_t f306_1821 hc440 ?_
    refine ex_weak (ls := [some (.ref (1)), some (.ref (32)), some (.ref (86)), some (.int (v3))]) (le2_ok ⟨Or.inr rfl, Or.inr rfl, Or.inr rfl, Or.inr rfl, trivial⟩) ?_
    exact p306_j2120_ok d F (K18) (hK18) (r438.2) ((p296_w F (r434.2) (p156_w F (h) w (hI (h) (1) ((v3) + (1)).toNatClampNeg) (hI (h) (1) ((v3) + (2)).toNatClampNeg)  r434 hr435) (hI (r434.2) (1) ((v3) + (1)).toNatClampNeg) (hI (r434.2) (1) ((v3) + (2)).toNatClampNeg)  r438 hr439)) (v3) _ hp
  · rw [if_neg hc440] at hp
    refine e_icmp_eq_f f306_1821 hc440 ?_
    refine e_iconst (v := 0) f306_1824 (by decide) ?_
    have hp := Option.some.inj hp
    subst hp
    exact e_ireturn f306_1825 (by decide)
set_option maxRecDepth 100000 in
set_option maxHeartbeats 4000000 in
theorem p306_lb43_ok (d : Nat) (F : Nat) (K18 : HS → Int32 → Option (Int32 × HS)) (hK18 : ∀ (h : HS) (w : WF h) (u3 : Int32) (r : Int32 × HS), K18 h u3 = some r → ex (d + 66) 306 (18, [some (.ref (1)), some (.ref (32)), some (.ref (86)), some (.int (u3))], [], h) = some (some (.int (r.1)), r.2)) (h : HS) (w : WF h) (v3 : Int32) (r : Int32 × HS) (hp : lb43 F K18 h v3 = some r) : ex (d + 66) 306 (1826, [some (.ref (1)), some (.ref (32)), some (.ref (86)), some (.int (v3))], [], h) = some (some (.int (r.1)), r.2) := by
  unfold lb43 at hp
  refine e_aload_n f306_1826 rfl ?_
  refine e_aload_n f306_1827 rfl ?_
  refine e_iload_n f306_1828 rfl ?_
  refine e_iconst (v := 1) f306_1829 (by decide) ?_
  refine e_iadd f306_1830 ?_
  by_cases hg442 : ((v3) + (1)) < (0 : Int32) ∨ hN (h) (1) ≤ ((v3) + (1)).toNatClampNeg
  · rw [if_pos hg442] at hp; cases hp
  rw [if_neg hg442] at hp
  refine e_iaload f306_1831 (Or.inr (WF.x w 1 (by decide))) rfl hg442 ?_
  refine e_aload_n f306_1832 rfl ?_
  refine e_iload_n f306_1833 rfl ?_
  refine e_iconst (v := 2) f306_1834 (by decide) ?_
  refine e_iadd f306_1835 ?_
  by_cases hg443 : ((v3) + (2)) < (0 : Int32) ∨ hN (h) (1) ≤ ((v3) + (2)).toNatClampNeg
  · rw [if_pos hg443] at hp; cases hp
  rw [if_neg hg443] at hp
  refine e_iaload f306_1836 (Or.inr (WF.x w 1 (by decide))) rfl hg443 ?_
  obtain ⟨r444, hr445, hp⟩ := bind_some hp
  try dsimp only at hp
  refine e_callV (st := []) (o := 32) (as := [.int (hI (h) (1) ((v3) + (1)).toNatClampNeg), .int (hI (h) (1) ((v3) + (2)).toNatClampNeg)]) f306_1837 (by decide) rfl rfl (Nat.le_of_ble_eq_true rfl) (WF.t w 32 (by decide)) (Nat.le_of_ble_eq_true rfl) (p157_ok (d + 61) F (h) w (hI (h) (1) ((v3) + (1)).toNatClampNeg) (hI (h) (1) ((v3) + (2)).toNatClampNeg) r444 hr445) ?_
  show ex _ 306 (1840, [some (.ref (1)), some (.ref (32)), some (.ref (86)), some (.int (v3))], [.int (r444.1)], r444.2) = _
  refine e_aload_n f306_1840 rfl ?_
  refine e_aload_n f306_1841 rfl ?_
  refine e_iload_n f306_1842 rfl ?_
  refine e_iconst (v := 1) f306_1843 (by decide) ?_
  refine e_iadd f306_1844 ?_
  by_cases hg446 : ((v3) + (1)) < (0 : Int32) ∨ hN (r444.2) (1) ≤ ((v3) + (1)).toNatClampNeg
  · rw [if_pos hg446] at hp; cases hp
  rw [if_neg hg446] at hp
  refine e_iaload f306_1845 (Or.inr (WF.x (p157_w F (h) w (hI (h) (1) ((v3) + (1)).toNatClampNeg) (hI (h) (1) ((v3) + (2)).toNatClampNeg)  r444 hr445) 1 (by decide))) rfl hg446 ?_
  refine e_aload_n f306_1846 rfl ?_
  refine e_iload_n f306_1847 rfl ?_
  refine e_iconst (v := 2) f306_1848 (by decide) ?_
  refine e_iadd f306_1849 ?_
  by_cases hg447 : ((v3) + (2)) < (0 : Int32) ∨ hN (r444.2) (1) ≤ ((v3) + (2)).toNatClampNeg
  · rw [if_pos hg447] at hp; cases hp
  rw [if_neg hg447] at hp
  refine e_iaload f306_1850 (Or.inr (WF.x (p157_w F (h) w (hI (h) (1) ((v3) + (1)).toNatClampNeg) (hI (h) (1) ((v3) + (2)).toNatClampNeg)  r444 hr445) 1 (by decide))) rfl hg447 ?_
  obtain ⟨r448, hr449, hp⟩ := bind_some hp
  try dsimp only at hp
  refine e_callV (st := [.int (r444.1)]) (o := 86) (as := [.int (hI (r444.2) (1) ((v3) + (1)).toNatClampNeg), .int (hI (r444.2) (1) ((v3) + (2)).toNatClampNeg)]) f306_1851 (by decide) rfl rfl (Nat.le_of_ble_eq_true rfl) (WF.t (p157_w F (h) w (hI (h) (1) ((v3) + (1)).toNatClampNeg) (hI (h) (1) ((v3) + (2)).toNatClampNeg)  r444 hr445) 86 (by decide)) (Nat.le_of_ble_eq_true rfl) (p294_ok (d + 60) F (r444.2) (p157_w F (h) w (hI (h) (1) ((v3) + (1)).toNatClampNeg) (hI (h) (1) ((v3) + (2)).toNatClampNeg)  r444 hr445) (hI (r444.2) (1) ((v3) + (1)).toNatClampNeg) (hI (r444.2) (1) ((v3) + (2)).toNatClampNeg) r448 hr449) ?_
  show ex _ 306 (1854, [some (.ref (1)), some (.ref (32)), some (.ref (86)), some (.int (v3))], [.int (r448.1), .int (r444.1)], r448.2) = _
  by_cases hc450 : (r444.1) = ((r448.1) : Int32)
  · rw [if_pos hc450] at hp
    refine e_icmp_eq_t f306_1854 hc450 ?_
    refine ex_weak (ls := [some (.ref (1)), some (.ref (32)), some (.ref (86)), some (.int (v3))]) (le2_ok ⟨Or.inr rfl, Or.inr rfl, Or.inr rfl, Or.inr rfl, trivial⟩) ?_
    exact p306_j2120_ok d F (K18) (hK18) (r448.2) ((p294_w F (r444.2) (p157_w F (h) w (hI (h) (1) ((v3) + (1)).toNatClampNeg) (hI (h) (1) ((v3) + (2)).toNatClampNeg)  r444 hr445) (hI (r444.2) (1) ((v3) + (1)).toNatClampNeg) (hI (r444.2) (1) ((v3) + (2)).toNatClampNeg)  r448 hr449)) (v3) _ hp
  · rw [if_neg hc450] at hp
    refine e_icmp_eq_f f306_1854 hc450 ?_
    refine e_iconst (v := 0) f306_1857 (by decide) ?_
    have hp := Option.some.inj hp
    subst hp
    exact e_ireturn f306_1858 (by decide)
set_option maxRecDepth 100000 in
set_option maxHeartbeats 4000000 in
theorem p306_lb44_ok (d : Nat) (F : Nat) (K18 : HS → Int32 → Option (Int32 × HS)) (hK18 : ∀ (h : HS) (w : WF h) (u3 : Int32) (r : Int32 × HS), K18 h u3 = some r → ex (d + 66) 306 (18, [some (.ref (1)), some (.ref (32)), some (.ref (86)), some (.int (u3))], [], h) = some (some (.int (r.1)), r.2)) (h : HS) (w : WF h) (v3 : Int32) (r : Int32 × HS) (hp : lb44 F K18 h v3 = some r) : ex (d + 66) 306 (1859, [some (.ref (1)), some (.ref (32)), some (.ref (86)), some (.int (v3))], [], h) = some (some (.int (r.1)), r.2) := by
  unfold lb44 at hp
  refine e_aload_n f306_1859 rfl ?_
  refine e_aload_n f306_1860 rfl ?_
  refine e_iload_n f306_1861 rfl ?_
  refine e_iconst (v := 1) f306_1862 (by decide) ?_
  refine e_iadd f306_1863 ?_
  by_cases hg452 : ((v3) + (1)) < (0 : Int32) ∨ hN (h) (1) ≤ ((v3) + (1)).toNatClampNeg
  · rw [if_pos hg452] at hp; cases hp
  rw [if_neg hg452] at hp
  refine e_iaload f306_1864 (Or.inr (WF.x w 1 (by decide))) rfl hg452 ?_
  refine e_aload_n f306_1865 rfl ?_
  refine e_iload_n f306_1866 rfl ?_
  refine e_iconst (v := 2) f306_1867 (by decide) ?_
  refine e_iadd f306_1868 ?_
  by_cases hg453 : ((v3) + (2)) < (0 : Int32) ∨ hN (h) (1) ≤ ((v3) + (2)).toNatClampNeg
  · rw [if_pos hg453] at hp; cases hp
  rw [if_neg hg453] at hp
  refine e_iaload f306_1869 (Or.inr (WF.x w 1 (by decide))) rfl hg453 ?_
  by_cases hc454 : (hI (h) (1) ((v3) + (2)).toNatClampNeg) = (0 : Int32)
  · rw [if_pos hc454] at hp
    refine e_if_eq_t f306_1870 hc454 ?_
    refine e_iconst (v := 0) f306_1877 (by decide) ?_
    refine ex_weak (ls := [some (.ref (1)), some (.ref (32)), some (.ref (86)), some (.int (v3))]) (le2_ok ⟨Or.inr rfl, Or.inr rfl, Or.inr rfl, Or.inr rfl, trivial⟩) ?_
    exact p306_j1878_ok d F (K18) (hK18) (h) (w) (v3) (0) (hI (h) (1) ((v3) + (1)).toNatClampNeg) _ hp
  · rw [if_neg hc454] at hp
    refine e_if_eq_f f306_1870 hc454 ?_
    refine e_iconst (v := 1) f306_1873 (by decide) ?_
    refine e_goto f306_1874 ?_
    refine ex_weak (ls := [some (.ref (1)), some (.ref (32)), some (.ref (86)), some (.int (v3))]) (le2_ok ⟨Or.inr rfl, Or.inr rfl, Or.inr rfl, Or.inr rfl, trivial⟩) ?_
    exact p306_j1878_ok d F (K18) (hK18) (h) (w) (v3) (1) (hI (h) (1) ((v3) + (1)).toNatClampNeg) _ hp
set_option maxRecDepth 100000 in
set_option maxHeartbeats 4000000 in
theorem p306_lb45_ok (d : Nat) (F : Nat) (K18 : HS → Int32 → Option (Int32 × HS)) (hK18 : ∀ (h : HS) (w : WF h) (u3 : Int32) (r : Int32 × HS), K18 h u3 = some r → ex (d + 66) 306 (18, [some (.ref (1)), some (.ref (32)), some (.ref (86)), some (.int (u3))], [], h) = some (some (.int (r.1)), r.2)) (h : HS) (w : WF h) (v3 : Int32) (r : Int32 × HS) (hp : lb45 F K18 h v3 = some r) : ex (d + 66) 306 (1908, [some (.ref (1)), some (.ref (32)), some (.ref (86)), some (.int (v3))], [], h) = some (some (.int (r.1)), r.2) := by
  unfold lb45 at hp
  refine e_aload_n f306_1908 rfl ?_
  refine e_aload_n f306_1909 rfl ?_
  refine e_iload_n f306_1910 rfl ?_
  refine e_iconst (v := 1) f306_1911 (by decide) ?_
  refine e_iadd f306_1912 ?_
  by_cases hg456 : ((v3) + (1)) < (0 : Int32) ∨ hN (h) (1) ≤ ((v3) + (1)).toNatClampNeg
  · rw [if_pos hg456] at hp; cases hp
  rw [if_neg hg456] at hp
  refine e_iaload f306_1913 (Or.inr (WF.x w 1 (by decide))) rfl hg456 ?_
  obtain ⟨r457, hr458, hp⟩ := bind_some hp
  try dsimp only at hp
  refine e_callV (st := []) (o := 32) (as := [.int (hI (h) (1) ((v3) + (1)).toNatClampNeg)]) f306_1914 (by decide) rfl rfl (Nat.le_of_ble_eq_true rfl) (WF.t w 32 (by decide)) (Nat.le_of_ble_eq_true rfl) (p159_ok (d + 60) F (h) w (hI (h) (1) ((v3) + (1)).toNatClampNeg) r457 hr458) ?_
  show ex _ 306 (1917, [some (.ref (1)), some (.ref (32)), some (.ref (86)), some (.int (v3))], [.int (r457.1)], r457.2) = _
  refine e_aload_n f306_1917 rfl ?_
  refine e_aload_n f306_1918 rfl ?_
  refine e_iload_n f306_1919 rfl ?_
  refine e_iconst (v := 1) f306_1920 (by decide) ?_
  refine e_iadd f306_1921 ?_
  by_cases hg459 : ((v3) + (1)) < (0 : Int32) ∨ hN (r457.2) (1) ≤ ((v3) + (1)).toNatClampNeg
  · rw [if_pos hg459] at hp; cases hp
  rw [if_neg hg459] at hp
  refine e_iaload f306_1922 (Or.inr (WF.x (p159_w F (h) w (hI (h) (1) ((v3) + (1)).toNatClampNeg)  r457 hr458) 1 (by decide))) rfl hg459 ?_
  obtain ⟨r460, hr461, hp⟩ := bind_some hp
  try dsimp only at hp
  refine e_callV (st := [.int (r457.1)]) (o := 86) (as := [.int (hI (r457.2) (1) ((v3) + (1)).toNatClampNeg)]) f306_1923 (by decide) rfl rfl (Nat.le_of_ble_eq_true rfl) (WF.t (p159_w F (h) w (hI (h) (1) ((v3) + (1)).toNatClampNeg)  r457 hr458) 86 (by decide)) (Nat.le_of_ble_eq_true rfl) (p298_ok (d + 59) F (r457.2) (p159_w F (h) w (hI (h) (1) ((v3) + (1)).toNatClampNeg)  r457 hr458) (hI (r457.2) (1) ((v3) + (1)).toNatClampNeg) r460 hr461) ?_
  show ex _ 306 (1926, [some (.ref (1)), some (.ref (32)), some (.ref (86)), some (.int (v3))], [.int (r460.1), .int (r457.1)], r460.2) = _
  by_cases hc462 : (r457.1) = ((r460.1) : Int32)
  · rw [if_pos hc462] at hp
    refine e_icmp_eq_t f306_1926 hc462 ?_
    refine ex_weak (ls := [some (.ref (1)), some (.ref (32)), some (.ref (86)), some (.int (v3))]) (le2_ok ⟨Or.inr rfl, Or.inr rfl, Or.inr rfl, Or.inr rfl, trivial⟩) ?_
    exact p306_j2120_ok d F (K18) (hK18) (r460.2) ((p298_w F (r457.2) (p159_w F (h) w (hI (h) (1) ((v3) + (1)).toNatClampNeg)  r457 hr458) (hI (r457.2) (1) ((v3) + (1)).toNatClampNeg)  r460 hr461)) (v3) _ hp
  · rw [if_neg hc462] at hp
    refine e_icmp_eq_f f306_1926 hc462 ?_
    refine e_iconst (v := 0) f306_1929 (by decide) ?_
    have hp := Option.some.inj hp
    subst hp
    exact e_ireturn f306_1930 (by decide)
set_option maxRecDepth 100000 in
set_option maxHeartbeats 4000000 in
theorem p306_lb46_ok (d : Nat) (F : Nat) (K18 : HS → Int32 → Option (Int32 × HS)) (hK18 : ∀ (h : HS) (w : WF h) (u3 : Int32) (r : Int32 × HS), K18 h u3 = some r → ex (d + 66) 306 (18, [some (.ref (1)), some (.ref (32)), some (.ref (86)), some (.int (u3))], [], h) = some (some (.int (r.1)), r.2)) (h : HS) (w : WF h) (v3 : Int32) (r : Int32 × HS) (hp : lb46 F K18 h v3 = some r) : ex (d + 66) 306 (1931, [some (.ref (1)), some (.ref (32)), some (.ref (86)), some (.int (v3))], [], h) = some (some (.int (r.1)), r.2) := by
  unfold lb46 at hp
  refine e_aload_n f306_1931 rfl ?_
  obtain ⟨r464, hr465, hp⟩ := bind_some hp
  try dsimp only at hp
  refine e_callV (st := []) (o := 32) (as := []) f306_1932 (by decide) rfl rfl (Nat.le_of_ble_eq_true rfl) (WF.t w 32 (by decide)) (Nat.le_of_ble_eq_true rfl) (p160_ok (d + 60) F (h) w r464 hr465) ?_
  show ex _ 306 (1935, [some (.ref (1)), some (.ref (32)), some (.ref (86)), some (.int (v3))], [.int (r464.1)], r464.2) = _
  refine e_aload_n f306_1935 rfl ?_
  obtain ⟨r466, hr467, hp⟩ := bind_some hp
  try dsimp only at hp
  refine e_callV (st := [.int (r464.1)]) (o := 86) (as := []) f306_1936 (by decide) rfl rfl (Nat.le_of_ble_eq_true rfl) (WF.t (p160_w F (h) w  r464 hr465) 86 (by decide)) (Nat.le_of_ble_eq_true rfl) (p299_ok (d + 59) F (r464.2) (p160_w F (h) w  r464 hr465) r466 hr467) ?_
  show ex _ 306 (1939, [some (.ref (1)), some (.ref (32)), some (.ref (86)), some (.int (v3))], [.int (r466.1), .int (r464.1)], r466.2) = _
  by_cases hc468 : (r464.1) = ((r466.1) : Int32)
  · rw [if_pos hc468] at hp
    refine e_icmp_eq_t f306_1939 hc468 ?_
    refine ex_weak (ls := [some (.ref (1)), some (.ref (32)), some (.ref (86)), some (.int (v3))]) (le2_ok ⟨Or.inr rfl, Or.inr rfl, Or.inr rfl, Or.inr rfl, trivial⟩) ?_
    exact p306_j2120_ok d F (K18) (hK18) (r466.2) ((p299_w F (r464.2) (p160_w F (h) w  r464 hr465)  r466 hr467)) (v3) _ hp
  · rw [if_neg hc468] at hp
    refine e_icmp_eq_f f306_1939 hc468 ?_
    refine e_iconst (v := 0) f306_1942 (by decide) ?_
    have hp := Option.some.inj hp
    subst hp
    exact e_ireturn f306_1943 (by decide)
set_option maxRecDepth 100000 in
set_option maxHeartbeats 4000000 in
theorem p306_lb47_ok (d : Nat) (F : Nat) (K18 : HS → Int32 → Option (Int32 × HS)) (hK18 : ∀ (h : HS) (w : WF h) (u3 : Int32) (r : Int32 × HS), K18 h u3 = some r → ex (d + 66) 306 (18, [some (.ref (1)), some (.ref (32)), some (.ref (86)), some (.int (u3))], [], h) = some (some (.int (r.1)), r.2)) (h : HS) (w : WF h) (v3 : Int32) (r : Int32 × HS) (hp : lb47 F K18 h v3 = some r) : ex (d + 66) 306 (1944, [some (.ref (1)), some (.ref (32)), some (.ref (86)), some (.int (v3))], [], h) = some (some (.int (r.1)), r.2) := by
  unfold lb47 at hp
  refine e_aload_n f306_1944 rfl ?_
  refine e_aload_n f306_1945 rfl ?_
  refine e_iload_n f306_1946 rfl ?_
  refine e_iconst (v := 1) f306_1947 (by decide) ?_
  refine e_iadd f306_1948 ?_
  by_cases hg470 : ((v3) + (1)) < (0 : Int32) ∨ hN (h) (1) ≤ ((v3) + (1)).toNatClampNeg
  · rw [if_pos hg470] at hp; cases hp
  rw [if_neg hg470] at hp
  refine e_iaload f306_1949 (Or.inr (WF.x w 1 (by decide))) rfl hg470 ?_
  refine e_aload_n f306_1950 rfl ?_
  refine e_iload_n f306_1951 rfl ?_
  refine e_iconst (v := 2) f306_1952 (by decide) ?_
  refine e_iadd f306_1953 ?_
  by_cases hg471 : ((v3) + (2)) < (0 : Int32) ∨ hN (h) (1) ≤ ((v3) + (2)).toNatClampNeg
  · rw [if_pos hg471] at hp; cases hp
  rw [if_neg hg471] at hp
  refine e_iaload f306_1954 (Or.inr (WF.x w 1 (by decide))) rfl hg471 ?_
  obtain ⟨r472, hr473, hp⟩ := bind_some hp
  try dsimp only at hp
  refine e_callV (st := []) (o := 32) (as := [.int (hI (h) (1) ((v3) + (1)).toNatClampNeg), .int (hI (h) (1) ((v3) + (2)).toNatClampNeg)]) f306_1955 (by decide) rfl rfl (Nat.le_of_ble_eq_true rfl) (WF.t w 32 (by decide)) (Nat.le_of_ble_eq_true rfl) (p161_ok (d + 63) (h) w (hI (h) (1) ((v3) + (1)).toNatClampNeg) (hI (h) (1) ((v3) + (2)).toNatClampNeg) r472 hr473) ?_
  show ex _ 306 (1958, [some (.ref (1)), some (.ref (32)), some (.ref (86)), some (.int (v3))], [.int (r472)], h) = _
  refine e_aload_n f306_1958 rfl ?_
  refine e_aload_n f306_1959 rfl ?_
  refine e_iload_n f306_1960 rfl ?_
  refine e_iconst (v := 1) f306_1961 (by decide) ?_
  refine e_iadd f306_1962 ?_
  by_cases hg474 : ((v3) + (1)) < (0 : Int32) ∨ hN (h) (1) ≤ ((v3) + (1)).toNatClampNeg
  · rw [if_pos hg474] at hp; cases hp
  rw [if_neg hg474] at hp
  refine e_iaload f306_1963 (Or.inr (WF.x w 1 (by decide))) rfl hg474 ?_
  refine e_aload_n f306_1964 rfl ?_
  refine e_iload_n f306_1965 rfl ?_
  refine e_iconst (v := 2) f306_1966 (by decide) ?_
  refine e_iadd f306_1967 ?_
  by_cases hg475 : ((v3) + (2)) < (0 : Int32) ∨ hN (h) (1) ≤ ((v3) + (2)).toNatClampNeg
  · rw [if_pos hg475] at hp; cases hp
  rw [if_neg hg475] at hp
  refine e_iaload f306_1968 (Or.inr (WF.x w 1 (by decide))) rfl hg475 ?_
  obtain ⟨r476, hr477, hp⟩ := bind_some hp
  try dsimp only at hp
  refine e_callV (st := [.int (r472)]) (o := 86) (as := [.int (hI (h) (1) ((v3) + (1)).toNatClampNeg), .int (hI (h) (1) ((v3) + (2)).toNatClampNeg)]) f306_1969 (by decide) rfl rfl (Nat.le_of_ble_eq_true rfl) (WF.t w 86 (by decide)) (Nat.le_of_ble_eq_true rfl) (p300_ok (d + 63) (h) w (hI (h) (1) ((v3) + (1)).toNatClampNeg) (hI (h) (1) ((v3) + (2)).toNatClampNeg) r476 hr477) ?_
  show ex _ 306 (1972, [some (.ref (1)), some (.ref (32)), some (.ref (86)), some (.int (v3))], [.int (r476), .int (r472)], h) = _
  by_cases hc478 : (r472) = ((r476) : Int32)
  · rw [if_pos hc478] at hp
    refine e_icmp_eq_t f306_1972 hc478 ?_
    refine ex_weak (ls := [some (.ref (1)), some (.ref (32)), some (.ref (86)), some (.int (v3))]) (le2_ok ⟨Or.inr rfl, Or.inr rfl, Or.inr rfl, Or.inr rfl, trivial⟩) ?_
    exact p306_j2120_ok d F (K18) (hK18) (h) (w) (v3) _ hp
  · rw [if_neg hc478] at hp
    refine e_icmp_eq_f f306_1972 hc478 ?_
    refine e_iconst (v := 0) f306_1975 (by decide) ?_
    have hp := Option.some.inj hp
    subst hp
    exact e_ireturn f306_1976 (by decide)
set_option maxRecDepth 100000 in
set_option maxHeartbeats 4000000 in
theorem p306_lb48_ok (d : Nat) (F : Nat) (K18 : HS → Int32 → Option (Int32 × HS)) (hK18 : ∀ (h : HS) (w : WF h) (u3 : Int32) (r : Int32 × HS), K18 h u3 = some r → ex (d + 66) 306 (18, [some (.ref (1)), some (.ref (32)), some (.ref (86)), some (.int (u3))], [], h) = some (some (.int (r.1)), r.2)) (h : HS) (w : WF h) (v3 : Int32) (r : Int32 × HS) (hp : lb48 F K18 h v3 = some r) : ex (d + 66) 306 (1977, [some (.ref (1)), some (.ref (32)), some (.ref (86)), some (.int (v3))], [], h) = some (some (.int (r.1)), r.2) := by
  unfold lb48 at hp
  refine e_aload_n f306_1977 rfl ?_
  refine e_aload_n f306_1978 rfl ?_
  refine e_iload_n f306_1979 rfl ?_
  refine e_iconst (v := 1) f306_1980 (by decide) ?_
  refine e_iadd f306_1981 ?_
  by_cases hg480 : ((v3) + (1)) < (0 : Int32) ∨ hN (h) (1) ≤ ((v3) + (1)).toNatClampNeg
  · rw [if_pos hg480] at hp; cases hp
  rw [if_neg hg480] at hp
  refine e_iaload f306_1982 (Or.inr (WF.x w 1 (by decide))) rfl hg480 ?_
  refine e_aload_n f306_1983 rfl ?_
  refine e_iload_n f306_1984 rfl ?_
  refine e_iconst (v := 2) f306_1985 (by decide) ?_
  refine e_iadd f306_1986 ?_
  by_cases hg481 : ((v3) + (2)) < (0 : Int32) ∨ hN (h) (1) ≤ ((v3) + (2)).toNatClampNeg
  · rw [if_pos hg481] at hp; cases hp
  rw [if_neg hg481] at hp
  refine e_iaload f306_1987 (Or.inr (WF.x w 1 (by decide))) rfl hg481 ?_
  obtain ⟨r482, hr483, hp⟩ := bind_some hp
  try dsimp only at hp
  refine e_callV (st := []) (o := 32) (as := [.int (hI (h) (1) ((v3) + (1)).toNatClampNeg), .int (hI (h) (1) ((v3) + (2)).toNatClampNeg)]) f306_1988 (by decide) rfl rfl (Nat.le_of_ble_eq_true rfl) (WF.t w 32 (by decide)) (Nat.le_of_ble_eq_true rfl) (p162_ok (d + 63) (h) w (hI (h) (1) ((v3) + (1)).toNatClampNeg) (hI (h) (1) ((v3) + (2)).toNatClampNeg) r482 hr483) ?_
  show ex _ 306 (1991, [some (.ref (1)), some (.ref (32)), some (.ref (86)), some (.int (v3))], [.int (r482.1)], r482.2) = _
  refine e_aload_n f306_1991 rfl ?_
  refine e_aload_n f306_1992 rfl ?_
  refine e_iload_n f306_1993 rfl ?_
  refine e_iconst (v := 1) f306_1994 (by decide) ?_
  refine e_iadd f306_1995 ?_
  by_cases hg484 : ((v3) + (1)) < (0 : Int32) ∨ hN (r482.2) (1) ≤ ((v3) + (1)).toNatClampNeg
  · rw [if_pos hg484] at hp; cases hp
  rw [if_neg hg484] at hp
  refine e_iaload f306_1996 (Or.inr (WF.x (p162_w (h) w (hI (h) (1) ((v3) + (1)).toNatClampNeg) (hI (h) (1) ((v3) + (2)).toNatClampNeg)  r482 hr483) 1 (by decide))) rfl hg484 ?_
  refine e_aload_n f306_1997 rfl ?_
  refine e_iload_n f306_1998 rfl ?_
  refine e_iconst (v := 2) f306_1999 (by decide) ?_
  refine e_iadd f306_2000 ?_
  by_cases hg485 : ((v3) + (2)) < (0 : Int32) ∨ hN (r482.2) (1) ≤ ((v3) + (2)).toNatClampNeg
  · rw [if_pos hg485] at hp; cases hp
  rw [if_neg hg485] at hp
  refine e_iaload f306_2001 (Or.inr (WF.x (p162_w (h) w (hI (h) (1) ((v3) + (1)).toNatClampNeg) (hI (h) (1) ((v3) + (2)).toNatClampNeg)  r482 hr483) 1 (by decide))) rfl hg485 ?_
  obtain ⟨r486, hr487, hp⟩ := bind_some hp
  try dsimp only at hp
  refine e_callV (st := [.int (r482.1)]) (o := 86) (as := [.int (hI (r482.2) (1) ((v3) + (1)).toNatClampNeg), .int (hI (r482.2) (1) ((v3) + (2)).toNatClampNeg)]) f306_2002 (by decide) rfl rfl (Nat.le_of_ble_eq_true rfl) (WF.t (p162_w (h) w (hI (h) (1) ((v3) + (1)).toNatClampNeg) (hI (h) (1) ((v3) + (2)).toNatClampNeg)  r482 hr483) 86 (by decide)) (Nat.le_of_ble_eq_true rfl) (p301_ok (d + 64) (r482.2) (p162_w (h) w (hI (h) (1) ((v3) + (1)).toNatClampNeg) (hI (h) (1) ((v3) + (2)).toNatClampNeg)  r482 hr483) (hI (r482.2) (1) ((v3) + (1)).toNatClampNeg) (hI (r482.2) (1) ((v3) + (2)).toNatClampNeg) r486 hr487) ?_
  show ex _ 306 (2005, [some (.ref (1)), some (.ref (32)), some (.ref (86)), some (.int (v3))], [.int (r486.1), .int (r482.1)], r486.2) = _
  by_cases hc488 : (r482.1) = ((r486.1) : Int32)
  · rw [if_pos hc488] at hp
    refine e_icmp_eq_t f306_2005 hc488 ?_
    refine ex_weak (ls := [some (.ref (1)), some (.ref (32)), some (.ref (86)), some (.int (v3))]) (le2_ok ⟨Or.inr rfl, Or.inr rfl, Or.inr rfl, Or.inr rfl, trivial⟩) ?_
    exact p306_j2120_ok d F (K18) (hK18) (r486.2) ((p301_w (r482.2) (p162_w (h) w (hI (h) (1) ((v3) + (1)).toNatClampNeg) (hI (h) (1) ((v3) + (2)).toNatClampNeg)  r482 hr483) (hI (r482.2) (1) ((v3) + (1)).toNatClampNeg) (hI (r482.2) (1) ((v3) + (2)).toNatClampNeg)  r486 hr487)) (v3) _ hp
  · rw [if_neg hc488] at hp
    refine e_icmp_eq_f f306_2005 hc488 ?_
    refine e_iconst (v := 0) f306_2008 (by decide) ?_
    have hp := Option.some.inj hp
    subst hp
    exact e_ireturn f306_2009 (by decide)
set_option maxRecDepth 100000 in
set_option maxHeartbeats 4000000 in
theorem p306_lb49_ok (d : Nat) (F : Nat) (K18 : HS → Int32 → Option (Int32 × HS)) (hK18 : ∀ (h : HS) (w : WF h) (u3 : Int32) (r : Int32 × HS), K18 h u3 = some r → ex (d + 66) 306 (18, [some (.ref (1)), some (.ref (32)), some (.ref (86)), some (.int (u3))], [], h) = some (some (.int (r.1)), r.2)) (h : HS) (w : WF h) (v3 : Int32) (r : Int32 × HS) (hp : lb49 F K18 h v3 = some r) : ex (d + 66) 306 (2010, [some (.ref (1)), some (.ref (32)), some (.ref (86)), some (.int (v3))], [], h) = some (some (.int (r.1)), r.2) := by
  unfold lb49 at hp
  refine e_aload_n f306_2010 rfl ?_
  refine e_aload_n f306_2011 rfl ?_
  refine e_iload_n f306_2012 rfl ?_
  refine e_iconst (v := 1) f306_2013 (by decide) ?_
  refine e_iadd f306_2014 ?_
  by_cases hg490 : ((v3) + (1)) < (0 : Int32) ∨ hN (h) (1) ≤ ((v3) + (1)).toNatClampNeg
  · rw [if_pos hg490] at hp; cases hp
  rw [if_neg hg490] at hp
  refine e_iaload f306_2015 (Or.inr (WF.x w 1 (by decide))) rfl hg490 ?_
  refine e_aload_n f306_2016 rfl ?_
  refine e_iload_n f306_2017 rfl ?_
  refine e_iconst (v := 2) f306_2018 (by decide) ?_
  refine e_iadd f306_2019 ?_
  by_cases hg491 : ((v3) + (2)) < (0 : Int32) ∨ hN (h) (1) ≤ ((v3) + (2)).toNatClampNeg
  · rw [if_pos hg491] at hp; cases hp
  rw [if_neg hg491] at hp
  refine e_iaload f306_2020 (Or.inr (WF.x w 1 (by decide))) rfl hg491 ?_
  refine e_i2l f306_2021 ?_
  refine e_bipush (v := 32) f306_2022 (by decide) ?_
  refine e_lshl f306_2024 ?_
  refine e_aload_n f306_2025 rfl ?_
  refine e_iload_n f306_2026 rfl ?_
  refine e_iconst (v := 3) f306_2027 (by decide) ?_
  refine e_iadd f306_2028 ?_
  by_cases hg492 : ((v3) + (3)) < (0 : Int32) ∨ hN (h) (1) ≤ ((v3) + (3)).toNatClampNeg
  · rw [if_pos hg492] at hp; cases hp
  rw [if_neg hg492] at hp
  refine e_iaload f306_2029 (Or.inr (WF.x w 1 (by decide))) rfl hg492 ?_
  refine e_i2l f306_2030 ?_
  refine e_ldc2 (v := 4294967295) f306_2031 (by decide) ?_
  refine e_land f306_2034 ?_
  refine e_lor f306_2035 ?_
  obtain ⟨r493, hr494, hp⟩ := bind_some hp
  try dsimp only at hp
  refine e_callV (st := []) (o := 32) (as := [.int (hI (h) (1) ((v3) + (1)).toNatClampNeg), .long ((((hI (h) (1) ((v3) + (2)).toNatClampNeg).toInt64) <<< ((32 : Int32).toInt64 &&& 63)) ||| (((hI (h) (1) ((v3) + (3)).toNatClampNeg).toInt64) &&& ((4294967295 : Int64))))]) f306_2036 (by decide) rfl rfl (Nat.le_of_ble_eq_true rfl) (WF.t w 32 (by decide)) (Nat.le_of_ble_eq_true rfl) (p163_ok (d + 61) F (h) w (hI (h) (1) ((v3) + (1)).toNatClampNeg) ((((hI (h) (1) ((v3) + (2)).toNatClampNeg).toInt64) <<< ((32 : Int32).toInt64 &&& 63)) ||| (((hI (h) (1) ((v3) + (3)).toNatClampNeg).toInt64) &&& ((4294967295 : Int64)))) r493 hr494) ?_
  show ex _ 306 (2039, [some (.ref (1)), some (.ref (32)), some (.ref (86)), some (.int (v3))], [.long (r493.1)], r493.2) = _
  refine e_aload_n f306_2039 rfl ?_
  refine e_aload_n f306_2040 rfl ?_
  refine e_iload_n f306_2041 rfl ?_
  refine e_iconst (v := 1) f306_2042 (by decide) ?_
  refine e_iadd f306_2043 ?_
  by_cases hg495 : ((v3) + (1)) < (0 : Int32) ∨ hN (r493.2) (1) ≤ ((v3) + (1)).toNatClampNeg
  · rw [if_pos hg495] at hp; cases hp
  rw [if_neg hg495] at hp
  refine e_iaload f306_2044 (Or.inr (WF.x (p163_w F (h) w (hI (h) (1) ((v3) + (1)).toNatClampNeg) ((((hI (h) (1) ((v3) + (2)).toNatClampNeg).toInt64) <<< ((32 : Int32).toInt64 &&& 63)) ||| (((hI (h) (1) ((v3) + (3)).toNatClampNeg).toInt64) &&& ((4294967295 : Int64))))  r493 hr494) 1 (by decide))) rfl hg495 ?_
  refine e_aload_n f306_2045 rfl ?_
  refine e_iload_n f306_2046 rfl ?_
  refine e_iconst (v := 2) f306_2047 (by decide) ?_
  refine e_iadd f306_2048 ?_
  by_cases hg496 : ((v3) + (2)) < (0 : Int32) ∨ hN (r493.2) (1) ≤ ((v3) + (2)).toNatClampNeg
  · rw [if_pos hg496] at hp; cases hp
  rw [if_neg hg496] at hp
  refine e_iaload f306_2049 (Or.inr (WF.x (p163_w F (h) w (hI (h) (1) ((v3) + (1)).toNatClampNeg) ((((hI (h) (1) ((v3) + (2)).toNatClampNeg).toInt64) <<< ((32 : Int32).toInt64 &&& 63)) ||| (((hI (h) (1) ((v3) + (3)).toNatClampNeg).toInt64) &&& ((4294967295 : Int64))))  r493 hr494) 1 (by decide))) rfl hg496 ?_
  refine e_i2l f306_2050 ?_
  refine e_bipush (v := 32) f306_2051 (by decide) ?_
  refine e_lshl f306_2053 ?_
  refine e_aload_n f306_2054 rfl ?_
  refine e_iload_n f306_2055 rfl ?_
  refine e_iconst (v := 3) f306_2056 (by decide) ?_
  refine e_iadd f306_2057 ?_
  by_cases hg497 : ((v3) + (3)) < (0 : Int32) ∨ hN (r493.2) (1) ≤ ((v3) + (3)).toNatClampNeg
  · rw [if_pos hg497] at hp; cases hp
  rw [if_neg hg497] at hp
  refine e_iaload f306_2058 (Or.inr (WF.x (p163_w F (h) w (hI (h) (1) ((v3) + (1)).toNatClampNeg) ((((hI (h) (1) ((v3) + (2)).toNatClampNeg).toInt64) <<< ((32 : Int32).toInt64 &&& 63)) ||| (((hI (h) (1) ((v3) + (3)).toNatClampNeg).toInt64) &&& ((4294967295 : Int64))))  r493 hr494) 1 (by decide))) rfl hg497 ?_
  refine e_i2l f306_2059 ?_
  refine e_ldc2 (v := 4294967295) f306_2060 (by decide) ?_
  refine e_land f306_2063 ?_
  refine e_lor f306_2064 ?_
  obtain ⟨r498, hr499, hp⟩ := bind_some hp
  try dsimp only at hp
  refine e_callV (st := [.long (r493.1)]) (o := 86) (as := [.int (hI (r493.2) (1) ((v3) + (1)).toNatClampNeg), .long ((((hI (r493.2) (1) ((v3) + (2)).toNatClampNeg).toInt64) <<< ((32 : Int32).toInt64 &&& 63)) ||| (((hI (r493.2) (1) ((v3) + (3)).toNatClampNeg).toInt64) &&& ((4294967295 : Int64))))]) f306_2065 (by decide) rfl rfl (Nat.le_of_ble_eq_true rfl) (WF.t (p163_w F (h) w (hI (h) (1) ((v3) + (1)).toNatClampNeg) ((((hI (h) (1) ((v3) + (2)).toNatClampNeg).toInt64) <<< ((32 : Int32).toInt64 &&& 63)) ||| (((hI (h) (1) ((v3) + (3)).toNatClampNeg).toInt64) &&& ((4294967295 : Int64))))  r493 hr494) 86 (by decide)) (Nat.le_of_ble_eq_true rfl) (p303_ok (d + 64) F (r493.2) (p163_w F (h) w (hI (h) (1) ((v3) + (1)).toNatClampNeg) ((((hI (h) (1) ((v3) + (2)).toNatClampNeg).toInt64) <<< ((32 : Int32).toInt64 &&& 63)) ||| (((hI (h) (1) ((v3) + (3)).toNatClampNeg).toInt64) &&& ((4294967295 : Int64))))  r493 hr494) (hI (r493.2) (1) ((v3) + (1)).toNatClampNeg) ((((hI (r493.2) (1) ((v3) + (2)).toNatClampNeg).toInt64) <<< ((32 : Int32).toInt64 &&& 63)) ||| (((hI (r493.2) (1) ((v3) + (3)).toNatClampNeg).toInt64) &&& ((4294967295 : Int64)))) r498 hr499) ?_
  show ex _ 306 (2068, [some (.ref (1)), some (.ref (32)), some (.ref (86)), some (.int (v3))], [.long (r498.1), .long (r493.1)], r498.2) = _
  refine e_lcmp f306_2068 ?_
  by_cases hc500 : (lg_cmp (r493.1) (r498.1)) = (0 : Int32)
  · rw [if_pos hc500] at hp
    refine e_if_eq_t f306_2069 hc500 ?_
    refine ex_weak (ls := [some (.ref (1)), some (.ref (32)), some (.ref (86)), some (.int (v3))]) (le2_ok ⟨Or.inr rfl, Or.inr rfl, Or.inr rfl, Or.inr rfl, trivial⟩) ?_
    exact p306_j2120_ok d F (K18) (hK18) (r498.2) ((p303_w F (r493.2) (p163_w F (h) w (hI (h) (1) ((v3) + (1)).toNatClampNeg) ((((hI (h) (1) ((v3) + (2)).toNatClampNeg).toInt64) <<< ((32 : Int32).toInt64 &&& 63)) ||| (((hI (h) (1) ((v3) + (3)).toNatClampNeg).toInt64) &&& ((4294967295 : Int64))))  r493 hr494) (hI (r493.2) (1) ((v3) + (1)).toNatClampNeg) ((((hI (r493.2) (1) ((v3) + (2)).toNatClampNeg).toInt64) <<< ((32 : Int32).toInt64 &&& 63)) ||| (((hI (r493.2) (1) ((v3) + (3)).toNatClampNeg).toInt64) &&& ((4294967295 : Int64))))  r498 hr499)) (v3) _ hp
  · rw [if_neg hc500] at hp
    refine e_if_eq_f f306_2069 hc500 ?_
    refine e_iconst (v := 0) f306_2072 (by decide) ?_
    have hp := Option.some.inj hp
    subst hp
    exact e_ireturn f306_2073 (by decide)
set_option maxRecDepth 100000 in
set_option maxHeartbeats 4000000 in
theorem p306_lb50_ok (d : Nat) (F : Nat) (K18 : HS → Int32 → Option (Int32 × HS)) (hK18 : ∀ (h : HS) (w : WF h) (u3 : Int32) (r : Int32 × HS), K18 h u3 = some r → ex (d + 66) 306 (18, [some (.ref (1)), some (.ref (32)), some (.ref (86)), some (.int (u3))], [], h) = some (some (.int (r.1)), r.2)) (h : HS) (w : WF h) (v3 : Int32) (r : Int32 × HS) (hp : lb50 F K18 h v3 = some r) : ex (d + 66) 306 (2074, [some (.ref (1)), some (.ref (32)), some (.ref (86)), some (.int (v3))], [], h) = some (some (.int (r.1)), r.2) := by
  unfold lb50 at hp
  refine e_aload_n f306_2074 rfl ?_
  refine e_aload_n f306_2075 rfl ?_
  refine e_iload_n f306_2076 rfl ?_
  refine e_iconst (v := 1) f306_2077 (by decide) ?_
  refine e_iadd f306_2078 ?_
  by_cases hg502 : ((v3) + (1)) < (0 : Int32) ∨ hN (h) (1) ≤ ((v3) + (1)).toNatClampNeg
  · rw [if_pos hg502] at hp; cases hp
  rw [if_neg hg502] at hp
  refine e_iaload f306_2079 (Or.inr (WF.x w 1 (by decide))) rfl hg502 ?_
  obtain ⟨r503, hr504, hp⟩ := bind_some hp
  try dsimp only at hp
  refine e_callV (st := []) (o := 32) (as := [.int (hI (h) (1) ((v3) + (1)).toNatClampNeg)]) f306_2080 (by decide) rfl rfl (Nat.le_of_ble_eq_true rfl) (WF.t w 32 (by decide)) (Nat.le_of_ble_eq_true rfl) (p164_ok (d + 63) (h) w (hI (h) (1) ((v3) + (1)).toNatClampNeg) r503 hr504) ?_
  show ex _ 306 (2083, [some (.ref (1)), some (.ref (32)), some (.ref (86)), some (.int (v3))], [.int (r503)], h) = _
  refine e_aload_n f306_2083 rfl ?_
  refine e_aload_n f306_2084 rfl ?_
  refine e_iload_n f306_2085 rfl ?_
  refine e_iconst (v := 1) f306_2086 (by decide) ?_
  refine e_iadd f306_2087 ?_
  by_cases hg505 : ((v3) + (1)) < (0 : Int32) ∨ hN (h) (1) ≤ ((v3) + (1)).toNatClampNeg
  · rw [if_pos hg505] at hp; cases hp
  rw [if_neg hg505] at hp
  refine e_iaload f306_2088 (Or.inr (WF.x w 1 (by decide))) rfl hg505 ?_
  obtain ⟨r506, hr507, hp⟩ := bind_some hp
  try dsimp only at hp
  refine e_callV (st := [.int (r503)]) (o := 86) (as := [.int (hI (h) (1) ((v3) + (1)).toNatClampNeg)]) f306_2089 (by decide) rfl rfl (Nat.le_of_ble_eq_true rfl) (WF.t w 86 (by decide)) (Nat.le_of_ble_eq_true rfl) (p304_ok (d + 64) (h) w (hI (h) (1) ((v3) + (1)).toNatClampNeg) r506 hr507) ?_
  show ex _ 306 (2092, [some (.ref (1)), some (.ref (32)), some (.ref (86)), some (.int (v3))], [.int (r506), .int (r503)], h) = _
  by_cases hc508 : (r503) = ((r506) : Int32)
  · rw [if_pos hc508] at hp
    refine e_icmp_eq_t f306_2092 hc508 ?_
    refine ex_weak (ls := [some (.ref (1)), some (.ref (32)), some (.ref (86)), some (.int (v3))]) (le2_ok ⟨Or.inr rfl, Or.inr rfl, Or.inr rfl, Or.inr rfl, trivial⟩) ?_
    exact p306_j2120_ok d F (K18) (hK18) (h) (w) (v3) _ hp
  · rw [if_neg hc508] at hp
    refine e_icmp_eq_f f306_2092 hc508 ?_
    refine e_iconst (v := 0) f306_2095 (by decide) ?_
    have hp := Option.some.inj hp
    subst hp
    exact e_ireturn f306_2096 (by decide)
set_option maxRecDepth 100000 in
set_option maxHeartbeats 4000000 in
theorem p306_lb51_ok (d : Nat) (F : Nat) (K18 : HS → Int32 → Option (Int32 × HS)) (hK18 : ∀ (h : HS) (w : WF h) (u3 : Int32) (r : Int32 × HS), K18 h u3 = some r → ex (d + 66) 306 (18, [some (.ref (1)), some (.ref (32)), some (.ref (86)), some (.int (u3))], [], h) = some (some (.int (r.1)), r.2)) (h : HS) (w : WF h) (v3 : Int32) (r : Int32 × HS) (hp : lb51 F K18 h v3 = some r) : ex (d + 66) 306 (2097, [some (.ref (1)), some (.ref (32)), some (.ref (86)), some (.int (v3))], [], h) = some (some (.int (r.1)), r.2) := by
  unfold lb51 at hp
  refine e_aload_n f306_2097 rfl ?_
  refine e_aload_n f306_2098 rfl ?_
  refine e_iload_n f306_2099 rfl ?_
  refine e_iconst (v := 1) f306_2100 (by decide) ?_
  refine e_iadd f306_2101 ?_
  by_cases hg510 : ((v3) + (1)) < (0 : Int32) ∨ hN (h) (1) ≤ ((v3) + (1)).toNatClampNeg
  · rw [if_pos hg510] at hp; cases hp
  rw [if_neg hg510] at hp
  refine e_iaload f306_2102 (Or.inr (WF.x w 1 (by decide))) rfl hg510 ?_
  obtain ⟨r511, hr512, hp⟩ := bind_some hp
  try dsimp only at hp
  refine e_callV (st := []) (o := 32) (as := [.int (hI (h) (1) ((v3) + (1)).toNatClampNeg)]) f306_2103 (by decide) rfl rfl (Nat.le_of_ble_eq_true rfl) (WF.t w 32 (by decide)) (Nat.le_of_ble_eq_true rfl) (p165_ok (d + 64) F (h) w (hI (h) (1) ((v3) + (1)).toNatClampNeg) r511 hr512) ?_
  show ex _ 306 (2106, [some (.ref (1)), some (.ref (32)), some (.ref (86)), some (.int (v3))], [.int (r511)], h) = _
  refine e_aload_n f306_2106 rfl ?_
  refine e_aload_n f306_2107 rfl ?_
  refine e_iload_n f306_2108 rfl ?_
  refine e_iconst (v := 1) f306_2109 (by decide) ?_
  refine e_iadd f306_2110 ?_
  by_cases hg513 : ((v3) + (1)) < (0 : Int32) ∨ hN (h) (1) ≤ ((v3) + (1)).toNatClampNeg
  · rw [if_pos hg513] at hp; cases hp
  rw [if_neg hg513] at hp
  refine e_iaload f306_2111 (Or.inr (WF.x w 1 (by decide))) rfl hg513 ?_
  obtain ⟨r514, hr515, hp⟩ := bind_some hp
  try dsimp only at hp
  refine e_callV (st := [.int (r511)]) (o := 86) (as := [.int (hI (h) (1) ((v3) + (1)).toNatClampNeg)]) f306_2112 (by decide) rfl rfl (Nat.le_of_ble_eq_true rfl) (WF.t w 86 (by decide)) (Nat.le_of_ble_eq_true rfl) (p305_ok (d + 65) F (h) w (hI (h) (1) ((v3) + (1)).toNatClampNeg) r514 hr515) ?_
  show ex _ 306 (2115, [some (.ref (1)), some (.ref (32)), some (.ref (86)), some (.int (v3))], [.int (r514), .int (r511)], h) = _
  by_cases hc516 : (r511) = ((r514) : Int32)
  · rw [if_pos hc516] at hp
    refine e_icmp_eq_t f306_2115 hc516 ?_
    refine ex_weak (ls := [some (.ref (1)), some (.ref (32)), some (.ref (86)), some (.int (v3))]) (le2_ok ⟨Or.inr rfl, Or.inr rfl, Or.inr rfl, Or.inr rfl, trivial⟩) ?_
    exact p306_j2120_ok d F (K18) (hK18) (h) (w) (v3) _ hp
  · rw [if_neg hc516] at hp
    refine e_icmp_eq_f f306_2115 hc516 ?_
    refine e_iconst (v := 0) f306_2118 (by decide) ?_
    have hp := Option.some.inj hp
    subst hp
    exact e_ireturn f306_2119 (by decide)
set_option maxRecDepth 100000 in
set_option maxHeartbeats 4000000 in
theorem p306_br_ok (d : Nat) (F : Nat) (K18 : HS → Int32 → Option (Int32 × HS)) (hK18 : ∀ (h : HS) (w : WF h) (u3 : Int32) (r : Int32 × HS), K18 h u3 = some r → ex (d + 66) 306 (18, [some (.ref (1)), some (.ref (32)), some (.ref (86)), some (.int (u3))], [], h) = some (some (.int (r.1)), r.2)) (h : HS) (w : WF h) (v3 x : Int32) (r : Int32 × HS) (hp : lbr F K18 h v3 x = some r) : ex (d + 66) 306 (33, [some (.ref (1)), some (.ref (32)), some (.ref (86)), some (.int (v3))], [.int x], h) = some (some (.int (r.1)), r.2) := by
  unfold lbr at hp
  by_cases hc3 : x = (0 : Int32)
  · rw [if_pos hc3] at hp
    refine e_sw (t := 256) f306_33 (by rw [hc3]; decide) (by rw [hc3]; decide) ?_
    exact p306_lb0_ok d F K18 hK18 h w v3 r hp
  rw [if_neg hc3] at hp
  by_cases hc11 : x = (1 : Int32)
  · rw [if_pos hc11] at hp
    refine e_sw (t := 279) f306_33 (by rw [hc11]; decide) (by rw [hc11]; decide) ?_
    exact p306_lb1_ok d F K18 hK18 h w v3 r hp
  rw [if_neg hc11] at hp
  by_cases hc19 : x = (2 : Int32)
  · rw [if_pos hc19] at hp
    refine e_sw (t := 302) f306_33 (by rw [hc19]; decide) (by rw [hc19]; decide) ?_
    exact p306_lb2_ok d F K18 hK18 h w v3 r hp
  rw [if_neg hc19] at hp
  by_cases hc33 : x = (3 : Int32)
  · rw [if_pos hc33] at hp
    refine e_sw (t := 375) f306_33 (by rw [hc33]; decide) (by rw [hc33]; decide) ?_
    exact p306_lb3_ok d F K18 hK18 h w v3 r hp
  rw [if_neg hc33] at hp
  by_cases hc43 : x = (4 : Int32)
  · rw [if_pos hc43] at hp
    refine e_sw (t := 408) f306_33 (by rw [hc43]; decide) (by rw [hc43]; decide) ?_
    exact p306_lb4_ok d F K18 hK18 h w v3 r hp
  rw [if_neg hc43] at hp
  by_cases hc55 : x = (5 : Int32)
  · rw [if_pos hc55] at hp
    refine e_sw (t := 451) f306_33 (by rw [hc55]; decide) (by rw [hc55]; decide) ?_
    exact p306_lb5_ok d F K18 hK18 h w v3 r hp
  rw [if_neg hc55] at hp
  by_cases hc67 : x = (6 : Int32)
  · rw [if_pos hc67] at hp
    refine e_sw (t := 494) f306_33 (by rw [hc67]; decide) (by rw [hc67]; decide) ?_
    exact p306_lb6_ok d F K18 hK18 h w v3 r hp
  rw [if_neg hc67] at hp
  by_cases hc77 : x = (7 : Int32)
  · rw [if_pos hc77] at hp
    refine e_sw (t := 527) f306_33 (by rw [hc77]; decide) (by rw [hc77]; decide) ?_
    exact p306_lb7_ok d F K18 hK18 h w v3 r hp
  rw [if_neg hc77] at hp
  by_cases hc91 : x = (8 : Int32)
  · rw [if_pos hc91] at hp
    refine e_sw (t := 600) f306_33 (by rw [hc91]; decide) (by rw [hc91]; decide) ?_
    exact p306_lb8_ok d F K18 hK18 h w v3 r hp
  rw [if_neg hc91] at hp
  by_cases hc99 : x = (9 : Int32)
  · rw [if_pos hc99] at hp
    refine e_sw (t := 623) f306_33 (by rw [hc99]; decide) (by rw [hc99]; decide) ?_
    exact p306_lb9_ok d F K18 hK18 h w v3 r hp
  rw [if_neg hc99] at hp
  by_cases hc105 : x = (10 : Int32)
  · rw [if_pos hc105] at hp
    refine e_sw (t := 636) f306_33 (by rw [hc105]; decide) (by rw [hc105]; decide) ?_
    exact p306_lb10_ok d F K18 hK18 h w v3 r hp
  rw [if_neg hc105] at hp
  by_cases hc113 : x = (11 : Int32)
  · rw [if_pos hc113] at hp
    refine e_sw (t := 659) f306_33 (by rw [hc113]; decide) (by rw [hc113]; decide) ?_
    exact p306_lb11_ok d F K18 hK18 h w v3 r hp
  rw [if_neg hc113] at hp
  by_cases hc121 : x = (12 : Int32)
  · rw [if_pos hc121] at hp
    refine e_sw (t := 682) f306_33 (by rw [hc121]; decide) (by rw [hc121]; decide) ?_
    exact p306_lb12_ok d F K18 hK18 h w v3 r hp
  rw [if_neg hc121] at hp
  by_cases hc131 : x = (13 : Int32)
  · rw [if_pos hc131] at hp
    refine e_sw (t := 715) f306_33 (by rw [hc131]; decide) (by rw [hc131]; decide) ?_
    exact p306_lb13_ok d F K18 hK18 h w v3 r hp
  rw [if_neg hc131] at hp
  by_cases hc139 : x = (14 : Int32)
  · rw [if_pos hc139] at hp
    refine e_sw (t := 738) f306_33 (by rw [hc139]; decide) (by rw [hc139]; decide) ?_
    exact p306_lb14_ok d F K18 hK18 h w v3 r hp
  rw [if_neg hc139] at hp
  by_cases hc153 : x = (15 : Int32)
  · rw [if_pos hc153] at hp
    refine e_sw (t := 791) f306_33 (by rw [hc153]; decide) (by rw [hc153]; decide) ?_
    exact p306_lb15_ok d F K18 hK18 h w v3 r hp
  rw [if_neg hc153] at hp
  by_cases hc161 : x = (16 : Int32)
  · rw [if_pos hc161] at hp
    refine e_sw (t := 814) f306_33 (by rw [hc161]; decide) (by rw [hc161]; decide) ?_
    exact p306_lb16_ok d F K18 hK18 h w v3 r hp
  rw [if_neg hc161] at hp
  by_cases hc169 : x = (17 : Int32)
  · rw [if_pos hc169] at hp
    refine e_sw (t := 837) f306_33 (by rw [hc169]; decide) (by rw [hc169]; decide) ?_
    exact p306_lb17_ok d F K18 hK18 h w v3 r hp
  rw [if_neg hc169] at hp
  by_cases hc189 : x = (18 : Int32)
  · rw [if_pos hc189] at hp
    refine e_sw (t := 924) f306_33 (by rw [hc189]; decide) (by rw [hc189]; decide) ?_
    exact p306_lb18_ok d F K18 hK18 h w v3 r hp
  rw [if_neg hc189] at hp
  by_cases hc197 : x = (19 : Int32)
  · rw [if_pos hc197] at hp
    refine e_sw (t := 947) f306_33 (by rw [hc197]; decide) (by rw [hc197]; decide) ?_
    exact p306_lb19_ok d F K18 hK18 h w v3 r hp
  rw [if_neg hc197] at hp
  by_cases hc207 : x = (20 : Int32)
  · rw [if_pos hc207] at hp
    refine e_sw (t := 980) f306_33 (by rw [hc207]; decide) (by rw [hc207]; decide) ?_
    exact p306_lb20_ok d F K18 hK18 h w v3 r hp
  rw [if_neg hc207] at hp
  by_cases hc219 : x = (21 : Int32)
  · rw [if_pos hc219] at hp
    refine e_sw (t := 1023) f306_33 (by rw [hc219]; decide) (by rw [hc219]; decide) ?_
    exact p306_lb21_ok d F K18 hK18 h w v3 r hp
  rw [if_neg hc219] at hp
  by_cases hc231 : x = (22 : Int32)
  · rw [if_pos hc231] at hp
    refine e_sw (t := 1066) f306_33 (by rw [hc231]; decide) (by rw [hc231]; decide) ?_
    exact p306_lb22_ok d F K18 hK18 h w v3 r hp
  rw [if_neg hc231] at hp
  by_cases hc241 : x = (23 : Int32)
  · rw [if_pos hc241] at hp
    refine e_sw (t := 1099) f306_33 (by rw [hc241]; decide) (by rw [hc241]; decide) ?_
    exact p306_lb23_ok d F K18 hK18 h w v3 r hp
  rw [if_neg hc241] at hp
  by_cases hc249 : x = (24 : Int32)
  · rw [if_pos hc249] at hp
    refine e_sw (t := 1122) f306_33 (by rw [hc249]; decide) (by rw [hc249]; decide) ?_
    exact p306_lb24_ok d F K18 hK18 h w v3 r hp
  rw [if_neg hc249] at hp
  by_cases hc261 : x = (25 : Int32)
  · rw [if_pos hc261] at hp
    refine e_sw (t := 1165) f306_33 (by rw [hc261]; decide) (by rw [hc261]; decide) ?_
    exact p306_lb25_ok d F K18 hK18 h w v3 r hp
  rw [if_neg hc261] at hp
  by_cases hc271 : x = (26 : Int32)
  · rw [if_pos hc271] at hp
    refine e_sw (t := 1198) f306_33 (by rw [hc271]; decide) (by rw [hc271]; decide) ?_
    exact p306_lb26_ok d F K18 hK18 h w v3 r hp
  rw [if_neg hc271] at hp
  by_cases hc285 : x = (27 : Int32)
  · rw [if_pos hc285] at hp
    refine e_sw (t := 1251) f306_33 (by rw [hc285]; decide) (by rw [hc285]; decide) ?_
    exact p306_lb27_ok d F K18 hK18 h w v3 r hp
  rw [if_neg hc285] at hp
  by_cases hc295 : x = (28 : Int32)
  · rw [if_pos hc295] at hp
    refine e_sw (t := 1284) f306_33 (by rw [hc295]; decide) (by rw [hc295]; decide) ?_
    exact p306_lb28_ok d F K18 hK18 h w v3 r hp
  rw [if_neg hc295] at hp
  by_cases hc311 : x = (29 : Int32)
  · rw [if_pos hc311] at hp
    refine e_sw (t := 1347) f306_33 (by rw [hc311]; decide) (by rw [hc311]; decide) ?_
    exact p306_lb29_ok d F K18 hK18 h w v3 r hp
  rw [if_neg hc311] at hp
  by_cases hc319 : x = (30 : Int32)
  · rw [if_pos hc319] at hp
    refine e_sw (t := 1370) f306_33 (by rw [hc319]; decide) (by rw [hc319]; decide) ?_
    exact p306_lb30_ok d F K18 hK18 h w v3 r hp
  rw [if_neg hc319] at hp
  by_cases hc327 : x = (31 : Int32)
  · rw [if_pos hc327] at hp
    refine e_sw (t := 1393) f306_33 (by rw [hc327]; decide) (by rw [hc327]; decide) ?_
    exact p306_lb31_ok d F K18 hK18 h w v3 r hp
  rw [if_neg hc327] at hp
  by_cases hc335 : x = (32 : Int32)
  · rw [if_pos hc335] at hp
    refine e_sw (t := 1416) f306_33 (by rw [hc335]; decide) (by rw [hc335]; decide) ?_
    exact p306_lb32_ok d F K18 hK18 h w v3 r hp
  rw [if_neg hc335] at hp
  by_cases hc351 : x = (33 : Int32)
  · rw [if_pos hc351] at hp
    refine e_sw (t := 1499) f306_33 (by rw [hc351]; decide) (by rw [hc351]; decide) ?_
    exact p306_lb33_ok d F K18 hK18 h w v3 r hp
  rw [if_neg hc351] at hp
  by_cases hc355 : x = (34 : Int32)
  · rw [if_pos hc355] at hp
    refine e_sw (t := 1548) f306_33 (by rw [hc355]; decide) (by rw [hc355]; decide) ?_
    exact p306_lb34_ok d F K18 hK18 h w v3 r hp
  rw [if_neg hc355] at hp
  by_cases hc367 : x = (35 : Int32)
  · rw [if_pos hc367] at hp
    refine e_sw (t := 1591) f306_33 (by rw [hc367]; decide) (by rw [hc367]; decide) ?_
    exact p306_lb35_ok d F K18 hK18 h w v3 r hp
  rw [if_neg hc367] at hp
  by_cases hc373 : x = (36 : Int32)
  · rw [if_pos hc373] at hp
    refine e_sw (t := 1604) f306_33 (by rw [hc373]; decide) (by rw [hc373]; decide) ?_
    exact p306_lb36_ok d F K18 hK18 h w v3 r hp
  rw [if_neg hc373] at hp
  by_cases hc383 : x = (37 : Int32)
  · rw [if_pos hc383] at hp
    refine e_sw (t := 1637) f306_33 (by rw [hc383]; decide) (by rw [hc383]; decide) ?_
    exact p306_lb37_ok d F K18 hK18 h w v3 r hp
  rw [if_neg hc383] at hp
  by_cases hc391 : x = (38 : Int32)
  · rw [if_pos hc391] at hp
    refine e_sw (t := 1661) f306_33 (by rw [hc391]; decide) (by rw [hc391]; decide) ?_
    exact p306_lb38_ok d F K18 hK18 h w v3 r hp
  rw [if_neg hc391] at hp
  by_cases hc397 : x = (39 : Int32)
  · rw [if_pos hc397] at hp
    refine e_sw (t := 1674) f306_33 (by rw [hc397]; decide) (by rw [hc397]; decide) ?_
    exact p306_lb39_ok d F K18 hK18 h w v3 r hp
  rw [if_neg hc397] at hp
  by_cases hc409 : x = (40 : Int32)
  · rw [if_pos hc409] at hp
    refine e_sw (t := 1717) f306_33 (by rw [hc409]; decide) (by rw [hc409]; decide) ?_
    exact p306_lb40_ok d F K18 hK18 h w v3 r hp
  rw [if_neg hc409] at hp
  by_cases hc421 : x = (41 : Int32)
  · rw [if_pos hc421] at hp
    refine e_sw (t := 1760) f306_33 (by rw [hc421]; decide) (by rw [hc421]; decide) ?_
    exact p306_lb41_ok d F K18 hK18 h w v3 r hp
  rw [if_neg hc421] at hp
  by_cases hc431 : x = (42 : Int32)
  · rw [if_pos hc431] at hp
    refine e_sw (t := 1793) f306_33 (by rw [hc431]; decide) (by rw [hc431]; decide) ?_
    exact p306_lb42_ok d F K18 hK18 h w v3 r hp
  rw [if_neg hc431] at hp
  by_cases hc441 : x = (43 : Int32)
  · rw [if_pos hc441] at hp
    refine e_sw (t := 1826) f306_33 (by rw [hc441]; decide) (by rw [hc441]; decide) ?_
    exact p306_lb43_ok d F K18 hK18 h w v3 r hp
  rw [if_neg hc441] at hp
  by_cases hc451 : x = (44 : Int32)
  · rw [if_pos hc451] at hp
    refine e_sw (t := 1859) f306_33 (by rw [hc451]; decide) (by rw [hc451]; decide) ?_
    exact p306_lb44_ok d F K18 hK18 h w v3 r hp
  rw [if_neg hc451] at hp
  by_cases hc455 : x = (45 : Int32)
  · rw [if_pos hc455] at hp
    refine e_sw (t := 1908) f306_33 (by rw [hc455]; decide) (by rw [hc455]; decide) ?_
    exact p306_lb45_ok d F K18 hK18 h w v3 r hp
  rw [if_neg hc455] at hp
  by_cases hc463 : x = (46 : Int32)
  · rw [if_pos hc463] at hp
    refine e_sw (t := 1931) f306_33 (by rw [hc463]; decide) (by rw [hc463]; decide) ?_
    exact p306_lb46_ok d F K18 hK18 h w v3 r hp
  rw [if_neg hc463] at hp
  by_cases hc469 : x = (47 : Int32)
  · rw [if_pos hc469] at hp
    refine e_sw (t := 1944) f306_33 (by rw [hc469]; decide) (by rw [hc469]; decide) ?_
    exact p306_lb47_ok d F K18 hK18 h w v3 r hp
  rw [if_neg hc469] at hp
  by_cases hc479 : x = (48 : Int32)
  · rw [if_pos hc479] at hp
    refine e_sw (t := 1977) f306_33 (by rw [hc479]; decide) (by rw [hc479]; decide) ?_
    exact p306_lb48_ok d F K18 hK18 h w v3 r hp
  rw [if_neg hc479] at hp
  by_cases hc489 : x = (49 : Int32)
  · rw [if_pos hc489] at hp
    refine e_sw (t := 2010) f306_33 (by rw [hc489]; decide) (by rw [hc489]; decide) ?_
    exact p306_lb49_ok d F K18 hK18 h w v3 r hp
  rw [if_neg hc489] at hp
  by_cases hc501 : x = (50 : Int32)
  · rw [if_pos hc501] at hp
    refine e_sw (t := 2074) f306_33 (by rw [hc501]; decide) (by rw [hc501]; decide) ?_
    exact p306_lb50_ok d F K18 hK18 h w v3 r hp
  rw [if_neg hc501] at hp
  by_cases hc509 : x = (51 : Int32)
  · rw [if_pos hc509] at hp
    refine e_sw (t := 2097) f306_33 (by rw [hc509]; decide) (by rw [hc509]; decide) ?_
    exact p306_lb51_ok d F K18 hK18 h w v3 r hp
  rw [if_neg hc509] at hp
  have ho517 := sw_out (x := x) 0 51 (fun j h1 h2 => by
    rcases (show j = 0 ∨ j = 1 ∨ j = 2 ∨ j = 3 ∨ j = 4 ∨ j = 5 ∨ j = 6 ∨ j = 7 ∨ j = 8 ∨ j = 9 ∨ j = 10 ∨ j = 11 ∨ j = 12 ∨ j = 13 ∨ j = 14 ∨ j = 15 ∨ j = 16 ∨ j = 17 ∨ j = 18 ∨ j = 19 ∨ j = 20 ∨ j = 21 ∨ j = 22 ∨ j = 23 ∨ j = 24 ∨ j = 25 ∨ j = 26 ∨ j = 27 ∨ j = 28 ∨ j = 29 ∨ j = 30 ∨ j = 31 ∨ j = 32 ∨ j = 33 ∨ j = 34 ∨ j = 35 ∨ j = 36 ∨ j = 37 ∨ j = 38 ∨ j = 39 ∨ j = 40 ∨ j = 41 ∨ j = 42 ∨ j = 43 ∨ j = 44 ∨ j = 45 ∨ j = 46 ∨ j = 47 ∨ j = 48 ∨ j = 49 ∨ j = 50 ∨ j = 51 by omega) with rfl | rfl | rfl | rfl | rfl | rfl | rfl | rfl | rfl | rfl | rfl | rfl | rfl | rfl | rfl | rfl | rfl | rfl | rfl | rfl | rfl | rfl | rfl | rfl | rfl | rfl | rfl | rfl | rfl | rfl | rfl | rfl | rfl | rfl | rfl | rfl | rfl | rfl | rfl | rfl | rfl | rfl | rfl | rfl | rfl | rfl | rfl | rfl | rfl | rfl | rfl | rfl
    · exact i32_ne hc3 (by decide)
    · exact i32_ne hc11 (by decide)
    · exact i32_ne hc19 (by decide)
    · exact i32_ne hc33 (by decide)
    · exact i32_ne hc43 (by decide)
    · exact i32_ne hc55 (by decide)
    · exact i32_ne hc67 (by decide)
    · exact i32_ne hc77 (by decide)
    · exact i32_ne hc91 (by decide)
    · exact i32_ne hc99 (by decide)
    · exact i32_ne hc105 (by decide)
    · exact i32_ne hc113 (by decide)
    · exact i32_ne hc121 (by decide)
    · exact i32_ne hc131 (by decide)
    · exact i32_ne hc139 (by decide)
    · exact i32_ne hc153 (by decide)
    · exact i32_ne hc161 (by decide)
    · exact i32_ne hc169 (by decide)
    · exact i32_ne hc189 (by decide)
    · exact i32_ne hc197 (by decide)
    · exact i32_ne hc207 (by decide)
    · exact i32_ne hc219 (by decide)
    · exact i32_ne hc231 (by decide)
    · exact i32_ne hc241 (by decide)
    · exact i32_ne hc249 (by decide)
    · exact i32_ne hc261 (by decide)
    · exact i32_ne hc271 (by decide)
    · exact i32_ne hc285 (by decide)
    · exact i32_ne hc295 (by decide)
    · exact i32_ne hc311 (by decide)
    · exact i32_ne hc319 (by decide)
    · exact i32_ne hc327 (by decide)
    · exact i32_ne hc335 (by decide)
    · exact i32_ne hc351 (by decide)
    · exact i32_ne hc355 (by decide)
    · exact i32_ne hc367 (by decide)
    · exact i32_ne hc373 (by decide)
    · exact i32_ne hc383 (by decide)
    · exact i32_ne hc391 (by decide)
    · exact i32_ne hc397 (by decide)
    · exact i32_ne hc409 (by decide)
    · exact i32_ne hc421 (by decide)
    · exact i32_ne hc431 (by decide)
    · exact i32_ne hc441 (by decide)
    · exact i32_ne hc451 (by decide)
    · exact i32_ne hc455 (by decide)
    · exact i32_ne hc463 (by decide)
    · exact i32_ne hc469 (by decide)
    · exact i32_ne hc479 (by decide)
    · exact i32_ne hc489 (by decide)
    · exact i32_ne hc501 (by decide)
    · exact i32_ne hc509 (by decide))
  refine e_sw (t := 2120) f306_33 ⟨by rw [swTo, if_pos ho517]; decide, by decide⟩ (by rw [swTo, if_pos ho517]; decide) ?_
  refine ex_weak (ls := [some (.ref (1)), some (.ref (32)), some (.ref (86)), some (.int (v3))]) (le2_ok ⟨Or.inr rfl, Or.inr rfl, Or.inr rfl, Or.inr rfl, trivial⟩) ?_
  exact p306_j2120_ok d F (K18) (hK18) (h) (w) (v3) _ hp
set_option maxRecDepth 100000 in
set_option maxHeartbeats 4000000 in
theorem p306_L18_ok (d : Nat) (F : Nat) : ∀ (n : Nat) (h : HS) (w : WF h) (v3 : Int32) (r : Int32 × HS), p306_L18 F n h v3 = some r → ex (d + 66) 306 (18, [some (.ref (1)), some (.ref (32)), some (.ref (86)), some (.int (v3))], [], h) = some (some (.int (r.1)), r.2) := by
  intro n
  induction n with
  | zero => intro h w v3 r hp; cases hp
  | succ n ih =>
    intro h w v3 r hp
    rw [p306_s] at hp
    refine e_iload_n f306_18 rfl ?_
    refine e_aload_n f306_19 rfl ?_
    refine e_arraylength (v := Int32.ofNat (hN (h) (1))) f306_20 (Or.inr (WF.x w 1 (by decide))) rfl ?_
    refine e_bipush (v := 8) f306_21 (by decide) ?_
    refine e_isub f306_23 ?_
    by_cases hc1 : ((Int32.ofNat (hN (h) (1))) - (8)) < ((v3) : Int32)
    · rw [if_pos hc1] at hp
      refine e_icmp_gt_t f306_24 hc1 ?_
      refine e_iconst (v := 1) f306_2126 (by decide) ?_
      have hp := Option.some.inj hp
      subst hp
      exact e_ireturn f306_2127 (by decide)
    · rw [if_neg hc1] at hp
      refine e_icmp_gt_f f306_24 hc1 ?_
      refine e_aload_n f306_27 rfl ?_
      refine e_iload_n f306_28 rfl ?_
      by_cases hg2 : (v3) < (0 : Int32) ∨ hN (h) (1) ≤ (v3).toNatClampNeg
      · rw [if_pos hg2] at hp; cases hp
      rw [if_neg hg2] at hp
      refine e_iaload f306_29 (Or.inr (WF.x w 1 (by decide))) rfl hg2 ?_
      refine e_bipush (v := 63) f306_30 (by decide) ?_
      refine e_iand f306_32 ?_
      exact p306_br_ok d F (p306_L18 F n) ih h w v3 _ r hp
