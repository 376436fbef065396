theorem all40 {α : Type} {f : α → Bool} : ∀ (n : Nat) (l : List α), l.length ≤ 40 * n → (∀ j, j < n → ((l.drop (40 * j)).take 40).all f = true) → l.all f = true
  | 0, l, h, _ => by
    have : l = [] := List.length_eq_zero_iff.mp (by omega)
    subst this; rfl
  | n + 1, l, h, hj => by
    have h0 := hj 0 (by omega)
    rw [Nat.mul_zero, List.drop_zero] at h0
    have h1 : (l.drop 40).all f = true := all40 n (l.drop 40) (by rw [List.length_drop]; omega) (fun j hjn => by
      have := hj (j + 1) (by omega)
      rw [List.drop_drop]
      rw [show 40 + 40 * j = 40 * (j + 1) by omega]
      exact this)
    rw [← List.take_append_drop 40 l, List.all_append, h0, h1]; rfl
def okDk (k : Nat) : Prop := (qcode k).all (okD (qb k)) = true
set_option maxRecDepth 100000 in
theorem kD0 : okDk 0 := all40 1 (qcode 0) (by decide +kernel) (fun j hj => match j, hj with | 0, _ => kd0_0)
set_option maxRecDepth 100000 in
theorem kD1 : okDk 1 := all40 1 (qcode 1) (by decide +kernel) (fun j hj => match j, hj with | 0, _ => kd1_0)
set_option maxRecDepth 100000 in
theorem kD2 : okDk 2 := all40 1 (qcode 2) (by decide +kernel) (fun j hj => match j, hj with | 0, _ => kd2_0)
set_option maxRecDepth 100000 in
theorem kD3 : okDk 3 := all40 1 (qcode 3) (by decide +kernel) (fun j hj => match j, hj with | 0, _ => kd3_0)
set_option maxRecDepth 100000 in
theorem kD4 : okDk 4 := all40 1 (qcode 4) (by decide +kernel) (fun j hj => match j, hj with | 0, _ => kd4_0)
set_option maxRecDepth 100000 in
theorem kD5 : okDk 5 := all40 1 (qcode 5) (by decide +kernel) (fun j hj => match j, hj with | 0, _ => kd5_0)
set_option maxRecDepth 100000 in
theorem kD6 : okDk 6 := all40 1 (qcode 6) (by decide +kernel) (fun j hj => match j, hj with | 0, _ => kd6_0)
set_option maxRecDepth 100000 in
theorem kD7 : okDk 7 := all40 1 (qcode 7) (by decide +kernel) (fun j hj => match j, hj with | 0, _ => kd7_0)
set_option maxRecDepth 100000 in
theorem kD8 : okDk 8 := all40 1 (qcode 8) (by decide +kernel) (fun j hj => match j, hj with | 0, _ => kd8_0)
set_option maxRecDepth 100000 in
theorem kD9 : okDk 9 := all40 2 (qcode 9) (by decide +kernel) (fun j hj => match j, hj with | 0, _ => kd9_0 | 1, _ => kd9_1)
set_option maxRecDepth 100000 in
theorem kD10 : okDk 10 := all40 1 (qcode 10) (by decide +kernel) (fun j hj => match j, hj with | 0, _ => kd10_0)
set_option maxRecDepth 100000 in
theorem kD11 : okDk 11 := all40 2 (qcode 11) (by decide +kernel) (fun j hj => match j, hj with | 0, _ => kd11_0 | 1, _ => kd11_1)
set_option maxRecDepth 100000 in
theorem kD12 : okDk 12 := all40 1 (qcode 12) (by decide +kernel) (fun j hj => match j, hj with | 0, _ => kd12_0)
set_option maxRecDepth 100000 in
theorem kD13 : okDk 13 := all40 1 (qcode 13) (by decide +kernel) (fun j hj => match j, hj with | 0, _ => kd13_0)
set_option maxRecDepth 100000 in
theorem kD14 : okDk 14 := all40 1 (qcode 14) (by decide +kernel) (fun j hj => match j, hj with | 0, _ => kd14_0)
set_option maxRecDepth 100000 in
theorem kD15 : okDk 15 := all40 1 (qcode 15) (by decide +kernel) (fun j hj => match j, hj with | 0, _ => kd15_0)
set_option maxRecDepth 100000 in
theorem kD16 : okDk 16 := all40 1 (qcode 16) (by decide +kernel) (fun j hj => match j, hj with | 0, _ => kd16_0)
set_option maxRecDepth 100000 in
theorem kD17 : okDk 17 := all40 1 (qcode 17) (by decide +kernel) (fun j hj => match j, hj with | 0, _ => kd17_0)
set_option maxRecDepth 100000 in
theorem kD18 : okDk 18 := all40 1 (qcode 18) (by decide +kernel) (fun j hj => match j, hj with | 0, _ => kd18_0)
set_option maxRecDepth 100000 in
theorem kD19 : okDk 19 := all40 3 (qcode 19) (by decide +kernel) (fun j hj => match j, hj with | 0, _ => kd19_0 | 1, _ => kd19_1 | 2, _ => kd19_2)
set_option maxRecDepth 100000 in
theorem kD20 : okDk 20 := all40 1 (qcode 20) (by decide +kernel) (fun j hj => match j, hj with | 0, _ => kd20_0)
set_option maxRecDepth 100000 in
theorem kD21 : okDk 21 := all40 2 (qcode 21) (by decide +kernel) (fun j hj => match j, hj with | 0, _ => kd21_0 | 1, _ => kd21_1)
set_option maxRecDepth 100000 in
theorem kD22 : okDk 22 := all40 2 (qcode 22) (by decide +kernel) (fun j hj => match j, hj with | 0, _ => kd22_0 | 1, _ => kd22_1)
set_option maxRecDepth 100000 in
theorem kD23 : okDk 23 := all40 2 (qcode 23) (by decide +kernel) (fun j hj => match j, hj with | 0, _ => kd23_0 | 1, _ => kd23_1)
set_option maxRecDepth 100000 in
theorem kD24 : okDk 24 := all40 2 (qcode 24) (by decide +kernel) (fun j hj => match j, hj with | 0, _ => kd24_0 | 1, _ => kd24_1)
set_option maxRecDepth 100000 in
theorem kD25 : okDk 25 := all40 1 (qcode 25) (by decide +kernel) (fun j hj => match j, hj with | 0, _ => kd25_0)
set_option maxRecDepth 100000 in
theorem kD26 : okDk 26 := all40 1 (qcode 26) (by decide +kernel) (fun j hj => match j, hj with | 0, _ => kd26_0)
set_option maxRecDepth 100000 in
theorem kD27 : okDk 27 := all40 3 (qcode 27) (by decide +kernel) (fun j hj => match j, hj with | 0, _ => kd27_0 | 1, _ => kd27_1 | 2, _ => kd27_2)
set_option maxRecDepth 100000 in
theorem kD28 : okDk 28 := all40 2 (qcode 28) (by decide +kernel) (fun j hj => match j, hj with | 0, _ => kd28_0 | 1, _ => kd28_1)
set_option maxRecDepth 100000 in
theorem kD29 : okDk 29 := all40 1 (qcode 29) (by decide +kernel) (fun j hj => match j, hj with | 0, _ => kd29_0)
set_option maxRecDepth 100000 in
theorem kD30 : okDk 30 := all40 2 (qcode 30) (by decide +kernel) (fun j hj => match j, hj with | 0, _ => kd30_0 | 1, _ => kd30_1)
set_option maxRecDepth 100000 in
theorem kD31 : okDk 31 := all40 1 (qcode 31) (by decide +kernel) (fun j hj => match j, hj with | 0, _ => kd31_0)
set_option maxRecDepth 100000 in
theorem kD32 : okDk 32 := all40 1 (qcode 32) (by decide +kernel) (fun j hj => match j, hj with | 0, _ => kd32_0)
set_option maxRecDepth 100000 in
theorem kD33 : okDk 33 := all40 1 (qcode 33) (by decide +kernel) (fun j hj => match j, hj with | 0, _ => kd33_0)
set_option maxRecDepth 100000 in
theorem kD34 : okDk 34 := all40 1 (qcode 34) (by decide +kernel) (fun j hj => match j, hj with | 0, _ => kd34_0)
set_option maxRecDepth 100000 in
theorem kD35 : okDk 35 := all40 3 (qcode 35) (by decide +kernel) (fun j hj => match j, hj with | 0, _ => kd35_0 | 1, _ => kd35_1 | 2, _ => kd35_2)
set_option maxRecDepth 100000 in
theorem kD36 : okDk 36 := all40 1 (qcode 36) (by decide +kernel) (fun j hj => match j, hj with | 0, _ => kd36_0)
set_option maxRecDepth 100000 in
theorem kD37 : okDk 37 := all40 1 (qcode 37) (by decide +kernel) (fun j hj => match j, hj with | 0, _ => kd37_0)
set_option maxRecDepth 100000 in
theorem kD38 : okDk 38 := all40 2 (qcode 38) (by decide +kernel) (fun j hj => match j, hj with | 0, _ => kd38_0 | 1, _ => kd38_1)
set_option maxRecDepth 100000 in
theorem kD39 : okDk 39 := all40 3 (qcode 39) (by decide +kernel) (fun j hj => match j, hj with | 0, _ => kd39_0 | 1, _ => kd39_1 | 2, _ => kd39_2)
set_option maxRecDepth 100000 in
theorem kD40 : okDk 40 := all40 2 (qcode 40) (by decide +kernel) (fun j hj => match j, hj with | 0, _ => kd40_0 | 1, _ => kd40_1)
set_option maxRecDepth 100000 in
theorem kD41 : okDk 41 := all40 2 (qcode 41) (by decide +kernel) (fun j hj => match j, hj with | 0, _ => kd41_0 | 1, _ => kd41_1)
set_option maxRecDepth 100000 in
theorem kD42 : okDk 42 := all40 2 (qcode 42) (by decide +kernel) (fun j hj => match j, hj with | 0, _ => kd42_0 | 1, _ => kd42_1)
set_option maxRecDepth 100000 in
theorem kD43 : okDk 43 := all40 1 (qcode 43) (by decide +kernel) (fun j hj => match j, hj with | 0, _ => kd43_0)
set_option maxRecDepth 100000 in
theorem kD44 : okDk 44 := all40 2 (qcode 44) (by decide +kernel) (fun j hj => match j, hj with | 0, _ => kd44_0 | 1, _ => kd44_1)
set_option maxRecDepth 100000 in
theorem kD45 : okDk 45 := all40 1 (qcode 45) (by decide +kernel) (fun j hj => match j, hj with | 0, _ => kd45_0)
set_option maxRecDepth 100000 in
theorem kD46 : okDk 46 := all40 1 (qcode 46) (by decide +kernel) (fun j hj => match j, hj with | 0, _ => kd46_0)
set_option maxRecDepth 100000 in
theorem kD47 : okDk 47 := all40 4 (qcode 47) (by decide +kernel) (fun j hj => match j, hj with | 0, _ => kd47_0 | 1, _ => kd47_1 | 2, _ => kd47_2 | 3, _ => kd47_3)
set_option maxRecDepth 100000 in
theorem kD48 : okDk 48 := all40 2 (qcode 48) (by decide +kernel) (fun j hj => match j, hj with | 0, _ => kd48_0 | 1, _ => kd48_1)
set_option maxRecDepth 100000 in
theorem kD49 : okDk 49 := all40 2 (qcode 49) (by decide +kernel) (fun j hj => match j, hj with | 0, _ => kd49_0 | 1, _ => kd49_1)
set_option maxRecDepth 100000 in
theorem kD50 : okDk 50 := all40 3 (qcode 50) (by decide +kernel) (fun j hj => match j, hj with | 0, _ => kd50_0 | 1, _ => kd50_1 | 2, _ => kd50_2)
set_option maxRecDepth 100000 in
theorem kD51 : okDk 51 := all40 2 (qcode 51) (by decide +kernel) (fun j hj => match j, hj with | 0, _ => kd51_0 | 1, _ => kd51_1)
set_option maxRecDepth 100000 in
theorem kD52 : okDk 52 := all40 1 (qcode 52) (by decide +kernel) (fun j hj => match j, hj with | 0, _ => kd52_0)
set_option maxRecDepth 100000 in
theorem kD53 : okDk 53 := all40 1 (qcode 53) (by decide +kernel) (fun j hj => match j, hj with | 0, _ => kd53_0)
set_option maxRecDepth 100000 in
theorem kD54 : okDk 54 := all40 1 (qcode 54) (by decide +kernel) (fun j hj => match j, hj with | 0, _ => kd54_0)
set_option maxRecDepth 100000 in
theorem kD55 : okDk 55 := all40 1 (qcode 55) (by decide +kernel) (fun j hj => match j, hj with | 0, _ => kd55_0)
set_option maxRecDepth 100000 in
theorem kD56 : okDk 56 := all40 1 (qcode 56) (by decide +kernel) (fun j hj => match j, hj with | 0, _ => kd56_0)
set_option maxRecDepth 100000 in
theorem kD57 : okDk 57 := all40 1 (qcode 57) (by decide +kernel) (fun j hj => match j, hj with | 0, _ => kd57_0)
set_option maxRecDepth 100000 in
theorem kD58 : okDk 58 := all40 2 (qcode 58) (by decide +kernel) (fun j hj => match j, hj with | 0, _ => kd58_0 | 1, _ => kd58_1)
set_option maxRecDepth 100000 in
theorem kD59 : okDk 59 := all40 2 (qcode 59) (by decide +kernel) (fun j hj => match j, hj with | 0, _ => kd59_0 | 1, _ => kd59_1)
set_option maxRecDepth 100000 in
theorem kD60 : okDk 60 := all40 1 (qcode 60) (by decide +kernel) (fun j hj => match j, hj with | 0, _ => kd60_0)
set_option maxRecDepth 100000 in
theorem kD61 : okDk 61 := all40 1 (qcode 61) (by decide +kernel) (fun j hj => match j, hj with | 0, _ => kd61_0)
set_option maxRecDepth 100000 in
theorem kD62 : okDk 62 := all40 1 (qcode 62) (by decide +kernel) (fun j hj => match j, hj with | 0, _ => kd62_0)
set_option maxRecDepth 100000 in
theorem kD63 : okDk 63 := all40 1 (qcode 63) (by decide +kernel) (fun j hj => match j, hj with | 0, _ => kd63_0)
set_option maxRecDepth 100000 in
theorem kD64 : okDk 64 := all40 1 (qcode 64) (by decide +kernel) (fun j hj => match j, hj with | 0, _ => kd64_0)
set_option maxRecDepth 100000 in
theorem kD65 : okDk 65 := all40 1 (qcode 65) (by decide +kernel) (fun j hj => match j, hj with | 0, _ => kd65_0)
set_option maxRecDepth 100000 in
theorem kD66 : okDk 66 := all40 1 (qcode 66) (by decide +kernel) (fun j hj => match j, hj with | 0, _ => kd66_0)
set_option maxRecDepth 100000 in
theorem kD67 : okDk 67 := all40 1 (qcode 67) (by decide +kernel) (fun j hj => match j, hj with | 0, _ => kd67_0)
set_option maxRecDepth 100000 in
theorem kD68 : okDk 68 := all40 1 (qcode 68) (by decide +kernel) (fun j hj => match j, hj with | 0, _ => kd68_0)
set_option maxRecDepth 100000 in
theorem kD69 : okDk 69 := all40 1 (qcode 69) (by decide +kernel) (fun j hj => match j, hj with | 0, _ => kd69_0)
set_option maxRecDepth 100000 in
theorem kD70 : okDk 70 := all40 1 (qcode 70) (by decide +kernel) (fun j hj => match j, hj with | 0, _ => kd70_0)
set_option maxRecDepth 100000 in
theorem kD71 : okDk 71 := all40 1 (qcode 71) (by decide +kernel) (fun j hj => match j, hj with | 0, _ => kd71_0)
set_option maxRecDepth 100000 in
theorem kD72 : okDk 72 := all40 1 (qcode 72) (by decide +kernel) (fun j hj => match j, hj with | 0, _ => kd72_0)
set_option maxRecDepth 100000 in
theorem kD73 : okDk 73 := all40 1 (qcode 73) (by decide +kernel) (fun j hj => match j, hj with | 0, _ => kd73_0)
set_option maxRecDepth 100000 in
theorem kD74 : okDk 74 := all40 1 (qcode 74) (by decide +kernel) (fun j hj => match j, hj with | 0, _ => kd74_0)
set_option maxRecDepth 100000 in
theorem kD75 : okDk 75 := all40 1 (qcode 75) (by decide +kernel) (fun j hj => match j, hj with | 0, _ => kd75_0)
set_option maxRecDepth 100000 in
theorem kD76 : okDk 76 := all40 2 (qcode 76) (by decide +kernel) (fun j hj => match j, hj with | 0, _ => kd76_0 | 1, _ => kd76_1)
set_option maxRecDepth 100000 in
theorem kD77 : okDk 77 := all40 2 (qcode 77) (by decide +kernel) (fun j hj => match j, hj with | 0, _ => kd77_0 | 1, _ => kd77_1)
set_option maxRecDepth 100000 in
theorem kD78 : okDk 78 := all40 1 (qcode 78) (by decide +kernel) (fun j hj => match j, hj with | 0, _ => kd78_0)
set_option maxRecDepth 100000 in
theorem kD79 : okDk 79 := all40 2 (qcode 79) (by decide +kernel) (fun j hj => match j, hj with | 0, _ => kd79_0 | 1, _ => kd79_1)
set_option maxRecDepth 100000 in
theorem kD80 : okDk 80 := all40 1 (qcode 80) (by decide +kernel) (fun j hj => match j, hj with | 0, _ => kd80_0)
set_option maxRecDepth 100000 in
theorem kD81 : okDk 81 := all40 1 (qcode 81) (by decide +kernel) (fun j hj => match j, hj with | 0, _ => kd81_0)
set_option maxRecDepth 100000 in
theorem kD82 : okDk 82 := all40 2 (qcode 82) (by decide +kernel) (fun j hj => match j, hj with | 0, _ => kd82_0 | 1, _ => kd82_1)
set_option maxRecDepth 100000 in
theorem kD83 : okDk 83 := all40 1 (qcode 83) (by decide +kernel) (fun j hj => match j, hj with | 0, _ => kd83_0)
set_option maxRecDepth 100000 in
theorem kD84 : okDk 84 := all40 1 (qcode 84) (by decide +kernel) (fun j hj => match j, hj with | 0, _ => kd84_0)
set_option maxRecDepth 100000 in
theorem kD85 : okDk 85 := all40 2 (qcode 85) (by decide +kernel) (fun j hj => match j, hj with | 0, _ => kd85_0 | 1, _ => kd85_1)
set_option maxRecDepth 100000 in
theorem kD86 : okDk 86 := all40 1 (qcode 86) (by decide +kernel) (fun j hj => match j, hj with | 0, _ => kd86_0)
set_option maxRecDepth 100000 in
theorem kD87 : okDk 87 := all40 1 (qcode 87) (by decide +kernel) (fun j hj => match j, hj with | 0, _ => kd87_0)
set_option maxRecDepth 100000 in
theorem kD88 : okDk 88 := all40 1 (qcode 88) (by decide +kernel) (fun j hj => match j, hj with | 0, _ => kd88_0)
set_option maxRecDepth 100000 in
theorem kD89 : okDk 89 := all40 1 (qcode 89) (by decide +kernel) (fun j hj => match j, hj with | 0, _ => kd89_0)
set_option maxRecDepth 100000 in
theorem kD90 : okDk 90 := all40 1 (qcode 90) (by decide +kernel) (fun j hj => match j, hj with | 0, _ => kd90_0)
set_option maxRecDepth 100000 in
theorem kD91 : okDk 91 := all40 1 (qcode 91) (by decide +kernel) (fun j hj => match j, hj with | 0, _ => kd91_0)
set_option maxRecDepth 100000 in
theorem kD92 : okDk 92 := all40 1 (qcode 92) (by decide +kernel) (fun j hj => match j, hj with | 0, _ => kd92_0)
set_option maxRecDepth 100000 in
theorem kD93 : okDk 93 := all40 1 (qcode 93) (by decide +kernel) (fun j hj => match j, hj with | 0, _ => kd93_0)
set_option maxRecDepth 100000 in
theorem kD94 : okDk 94 := all40 1 (qcode 94) (by decide +kernel) (fun j hj => match j, hj with | 0, _ => kd94_0)
set_option maxRecDepth 100000 in
theorem kD95 : okDk 95 := all40 1 (qcode 95) (by decide +kernel) (fun j hj => match j, hj with | 0, _ => kd95_0)
set_option maxRecDepth 100000 in
theorem kD96 : okDk 96 := all40 1 (qcode 96) (by decide +kernel) (fun j hj => match j, hj with | 0, _ => kd96_0)
set_option maxRecDepth 100000 in
theorem kD97 : okDk 97 := all40 1 (qcode 97) (by decide +kernel) (fun j hj => match j, hj with | 0, _ => kd97_0)
set_option maxRecDepth 100000 in
theorem kD98 : okDk 98 := all40 1 (qcode 98) (by decide +kernel) (fun j hj => match j, hj with | 0, _ => kd98_0)
set_option maxRecDepth 100000 in
theorem kD99 : okDk 99 := all40 1 (qcode 99) (by decide +kernel) (fun j hj => match j, hj with | 0, _ => kd99_0)
set_option maxRecDepth 100000 in
theorem kD100 : okDk 100 := all40 1 (qcode 100) (by decide +kernel) (fun j hj => match j, hj with | 0, _ => kd100_0)
set_option maxRecDepth 100000 in
theorem kD101 : okDk 101 := all40 1 (qcode 101) (by decide +kernel) (fun j hj => match j, hj with | 0, _ => kd101_0)
set_option maxRecDepth 100000 in
theorem kD102 : okDk 102 := all40 1 (qcode 102) (by decide +kernel) (fun j hj => match j, hj with | 0, _ => kd102_0)
set_option maxRecDepth 100000 in
theorem kD103 : okDk 103 := all40 2 (qcode 103) (by decide +kernel) (fun j hj => match j, hj with | 0, _ => kd103_0 | 1, _ => kd103_1)
set_option maxRecDepth 100000 in
theorem kD104 : okDk 104 := all40 1 (qcode 104) (by decide +kernel) (fun j hj => match j, hj with | 0, _ => kd104_0)
set_option maxRecDepth 100000 in
theorem kD105 : okDk 105 := all40 1 (qcode 105) (by decide +kernel) (fun j hj => match j, hj with | 0, _ => kd105_0)
set_option maxRecDepth 100000 in
theorem kD106 : okDk 106 := all40 1 (qcode 106) (by decide +kernel) (fun j hj => match j, hj with | 0, _ => kd106_0)
set_option maxRecDepth 100000 in
theorem kD107 : okDk 107 := all40 2 (qcode 107) (by decide +kernel) (fun j hj => match j, hj with | 0, _ => kd107_0 | 1, _ => kd107_1)
set_option maxRecDepth 100000 in
theorem kD108 : okDk 108 := all40 2 (qcode 108) (by decide +kernel) (fun j hj => match j, hj with | 0, _ => kd108_0 | 1, _ => kd108_1)
set_option maxRecDepth 100000 in
theorem kD109 : okDk 109 := all40 1 (qcode 109) (by decide +kernel) (fun j hj => match j, hj with | 0, _ => kd109_0)
set_option maxRecDepth 100000 in
theorem kD110 : okDk 110 := all40 2 (qcode 110) (by decide +kernel) (fun j hj => match j, hj with | 0, _ => kd110_0 | 1, _ => kd110_1)
set_option maxRecDepth 100000 in
theorem kD111 : okDk 111 := all40 1 (qcode 111) (by decide +kernel) (fun j hj => match j, hj with | 0, _ => kd111_0)
set_option maxRecDepth 100000 in
theorem kD112 : okDk 112 := all40 1 (qcode 112) (by decide +kernel) (fun j hj => match j, hj with | 0, _ => kd112_0)
set_option maxRecDepth 100000 in
theorem kD113 : okDk 113 := all40 2 (qcode 113) (by decide +kernel) (fun j hj => match j, hj with | 0, _ => kd113_0 | 1, _ => kd113_1)
set_option maxRecDepth 100000 in
theorem kD114 : okDk 114 := all40 1 (qcode 114) (by decide +kernel) (fun j hj => match j, hj with | 0, _ => kd114_0)
set_option maxRecDepth 100000 in
theorem kD115 : okDk 115 := all40 1 (qcode 115) (by decide +kernel) (fun j hj => match j, hj with | 0, _ => kd115_0)
set_option maxRecDepth 100000 in
theorem kD116 : okDk 116 := all40 1 (qcode 116) (by decide +kernel) (fun j hj => match j, hj with | 0, _ => kd116_0)
set_option maxRecDepth 100000 in
theorem kD117 : okDk 117 := all40 2 (qcode 117) (by decide +kernel) (fun j hj => match j, hj with | 0, _ => kd117_0 | 1, _ => kd117_1)
set_option maxRecDepth 100000 in
theorem kD118 : okDk 118 := all40 1 (qcode 118) (by decide +kernel) (fun j hj => match j, hj with | 0, _ => kd118_0)
set_option maxRecDepth 100000 in
theorem kD119 : okDk 119 := all40 1 (qcode 119) (by decide +kernel) (fun j hj => match j, hj with | 0, _ => kd119_0)
set_option maxRecDepth 100000 in
theorem kD120 : okDk 120 := all40 1 (qcode 120) (by decide +kernel) (fun j hj => match j, hj with | 0, _ => kd120_0)
set_option maxRecDepth 100000 in
theorem kD121 : okDk 121 := all40 1 (qcode 121) (by decide +kernel) (fun j hj => match j, hj with | 0, _ => kd121_0)
set_option maxRecDepth 100000 in
theorem kD122 : okDk 122 := all40 1 (qcode 122) (by decide +kernel) (fun j hj => match j, hj with | 0, _ => kd122_0)
set_option maxRecDepth 100000 in
theorem kD123 : okDk 123 := all40 1 (qcode 123) (by decide +kernel) (fun j hj => match j, hj with | 0, _ => kd123_0)
set_option maxRecDepth 100000 in
theorem kD124 : okDk 124 := all40 1 (qcode 124) (by decide +kernel) (fun j hj => match j, hj with | 0, _ => kd124_0)
set_option maxRecDepth 100000 in
theorem kD125 : okDk 125 := all40 1 (qcode 125) (by decide +kernel) (fun j hj => match j, hj with | 0, _ => kd125_0)
set_option maxRecDepth 100000 in
theorem kD126 : okDk 126 := all40 1 (qcode 126) (by decide +kernel) (fun j hj => match j, hj with | 0, _ => kd126_0)
set_option maxRecDepth 100000 in
theorem kD127 : okDk 127 := all40 1 (qcode 127) (by decide +kernel) (fun j hj => match j, hj with | 0, _ => kd127_0)
set_option maxRecDepth 100000 in
theorem kD128 : okDk 128 := all40 2 (qcode 128) (by decide +kernel) (fun j hj => match j, hj with | 0, _ => kd128_0 | 1, _ => kd128_1)
set_option maxRecDepth 100000 in
theorem kD129 : okDk 129 := all40 1 (qcode 129) (by decide +kernel) (fun j hj => match j, hj with | 0, _ => kd129_0)
set_option maxRecDepth 100000 in
theorem kD130 : okDk 130 := all40 1 (qcode 130) (by decide +kernel) (fun j hj => match j, hj with | 0, _ => kd130_0)
set_option maxRecDepth 100000 in
theorem kD131 : okDk 131 := all40 3 (qcode 131) (by decide +kernel) (fun j hj => match j, hj with | 0, _ => kd131_0 | 1, _ => kd131_1 | 2, _ => kd131_2)
set_option maxRecDepth 100000 in
theorem kD132 : okDk 132 := all40 1 (qcode 132) (by decide +kernel) (fun j hj => match j, hj with | 0, _ => kd132_0)
set_option maxRecDepth 100000 in
theorem kD133 : okDk 133 := all40 1 (qcode 133) (by decide +kernel) (fun j hj => match j, hj with | 0, _ => kd133_0)
set_option maxRecDepth 100000 in
theorem kD134 : okDk 134 := all40 1 (qcode 134) (by decide +kernel) (fun j hj => match j, hj with | 0, _ => kd134_0)
set_option maxRecDepth 100000 in
theorem kD135 : okDk 135 := all40 1 (qcode 135) (by decide +kernel) (fun j hj => match j, hj with | 0, _ => kd135_0)
set_option maxRecDepth 100000 in
theorem kD136 : okDk 136 := all40 1 (qcode 136) (by decide +kernel) (fun j hj => match j, hj with | 0, _ => kd136_0)
set_option maxRecDepth 100000 in
theorem kD137 : okDk 137 := all40 1 (qcode 137) (by decide +kernel) (fun j hj => match j, hj with | 0, _ => kd137_0)
set_option maxRecDepth 100000 in
theorem kD138 : okDk 138 := all40 1 (qcode 138) (by decide +kernel) (fun j hj => match j, hj with | 0, _ => kd138_0)
set_option maxRecDepth 100000 in
theorem kD139 : okDk 139 := all40 1 (qcode 139) (by decide +kernel) (fun j hj => match j, hj with | 0, _ => kd139_0)
set_option maxRecDepth 100000 in
theorem kD140 : okDk 140 := all40 2 (qcode 140) (by decide +kernel) (fun j hj => match j, hj with | 0, _ => kd140_0 | 1, _ => kd140_1)
set_option maxRecDepth 100000 in
theorem kD141 : okDk 141 := all40 1 (qcode 141) (by decide +kernel) (fun j hj => match j, hj with | 0, _ => kd141_0)
set_option maxRecDepth 100000 in
theorem kD142 : okDk 142 := all40 1 (qcode 142) (by decide +kernel) (fun j hj => match j, hj with | 0, _ => kd142_0)
set_option maxRecDepth 100000 in
theorem kD143 : okDk 143 := all40 1 (qcode 143) (by decide +kernel) (fun j hj => match j, hj with | 0, _ => kd143_0)
set_option maxRecDepth 100000 in
theorem kD144 : okDk 144 := all40 2 (qcode 144) (by decide +kernel) (fun j hj => match j, hj with | 0, _ => kd144_0 | 1, _ => kd144_1)
set_option maxRecDepth 100000 in
theorem kD145 : okDk 145 := all40 1 (qcode 145) (by decide +kernel) (fun j hj => match j, hj with | 0, _ => kd145_0)
set_option maxRecDepth 100000 in
theorem kD146 : okDk 146 := all40 1 (qcode 146) (by decide +kernel) (fun j hj => match j, hj with | 0, _ => kd146_0)
set_option maxRecDepth 100000 in
theorem kD147 : okDk 147 := all40 1 (qcode 147) (by decide +kernel) (fun j hj => match j, hj with | 0, _ => kd147_0)
set_option maxRecDepth 100000 in
theorem kD148 : okDk 148 := all40 1 (qcode 148) (by decide +kernel) (fun j hj => match j, hj with | 0, _ => kd148_0)
set_option maxRecDepth 100000 in
theorem kD149 : okDk 149 := all40 1 (qcode 149) (by decide +kernel) (fun j hj => match j, hj with | 0, _ => kd149_0)
set_option maxRecDepth 100000 in
theorem kD150 : okDk 150 := all40 2 (qcode 150) (by decide +kernel) (fun j hj => match j, hj with | 0, _ => kd150_0 | 1, _ => kd150_1)
set_option maxRecDepth 100000 in
theorem kD151 : okDk 151 := all40 1 (qcode 151) (by decide +kernel) (fun j hj => match j, hj with | 0, _ => kd151_0)
set_option maxRecDepth 100000 in
theorem kD152 : okDk 152 := all40 1 (qcode 152) (by decide +kernel) (fun j hj => match j, hj with | 0, _ => kd152_0)
set_option maxRecDepth 100000 in
theorem kD153 : okDk 153 := all40 1 (qcode 153) (by decide +kernel) (fun j hj => match j, hj with | 0, _ => kd153_0)
set_option maxRecDepth 100000 in
theorem kD154 : okDk 154 := all40 1 (qcode 154) (by decide +kernel) (fun j hj => match j, hj with | 0, _ => kd154_0)
set_option maxRecDepth 100000 in
theorem kD155 : okDk 155 := all40 1 (qcode 155) (by decide +kernel) (fun j hj => match j, hj with | 0, _ => kd155_0)
set_option maxRecDepth 100000 in
theorem kD156 : okDk 156 := all40 1 (qcode 156) (by decide +kernel) (fun j hj => match j, hj with | 0, _ => kd156_0)
set_option maxRecDepth 100000 in
theorem kD157 : okDk 157 := all40 1 (qcode 157) (by decide +kernel) (fun j hj => match j, hj with | 0, _ => kd157_0)
set_option maxRecDepth 100000 in
theorem kD158 : okDk 158 := all40 1 (qcode 158) (by decide +kernel) (fun j hj => match j, hj with | 0, _ => kd158_0)
set_option maxRecDepth 100000 in
theorem kD159 : okDk 159 := all40 1 (qcode 159) (by decide +kernel) (fun j hj => match j, hj with | 0, _ => kd159_0)
set_option maxRecDepth 100000 in
theorem kD160 : okDk 160 := all40 1 (qcode 160) (by decide +kernel) (fun j hj => match j, hj with | 0, _ => kd160_0)
set_option maxRecDepth 100000 in
theorem kD161 : okDk 161 := all40 1 (qcode 161) (by decide +kernel) (fun j hj => match j, hj with | 0, _ => kd161_0)
set_option maxRecDepth 100000 in
theorem kD162 : okDk 162 := all40 1 (qcode 162) (by decide +kernel) (fun j hj => match j, hj with | 0, _ => kd162_0)
set_option maxRecDepth 100000 in
theorem kD163 : okDk 163 := all40 1 (qcode 163) (by decide +kernel) (fun j hj => match j, hj with | 0, _ => kd163_0)
set_option maxRecDepth 100000 in
theorem kD164 : okDk 164 := all40 1 (qcode 164) (by decide +kernel) (fun j hj => match j, hj with | 0, _ => kd164_0)
set_option maxRecDepth 100000 in
theorem kD165 : okDk 165 := all40 2 (qcode 165) (by decide +kernel) (fun j hj => match j, hj with | 0, _ => kd165_0 | 1, _ => kd165_1)
set_option maxRecDepth 100000 in
theorem kD166 : okDk 166 := all40 1 (qcode 166) (by decide +kernel) (fun j hj => match j, hj with | 0, _ => kd166_0)
set_option maxRecDepth 100000 in
theorem kD167 : okDk 167 := all40 1 (qcode 167) (by decide +kernel) (fun j hj => match j, hj with | 0, _ => kd167_0)
set_option maxRecDepth 100000 in
theorem kD168 : okDk 168 := all40 1 (qcode 168) (by decide +kernel) (fun j hj => match j, hj with | 0, _ => kd168_0)
set_option maxRecDepth 100000 in
theorem kD169 : okDk 169 := all40 1 (qcode 169) (by decide +kernel) (fun j hj => match j, hj with | 0, _ => kd169_0)
set_option maxRecDepth 100000 in
theorem kD170 : okDk 170 := all40 1 (qcode 170) (by decide +kernel) (fun j hj => match j, hj with | 0, _ => kd170_0)
set_option maxRecDepth 100000 in
theorem kD171 : okDk 171 := all40 1 (qcode 171) (by decide +kernel) (fun j hj => match j, hj with | 0, _ => kd171_0)
set_option maxRecDepth 100000 in
theorem kD172 : okDk 172 := all40 1 (qcode 172) (by decide +kernel) (fun j hj => match j, hj with | 0, _ => kd172_0)
set_option maxRecDepth 100000 in
theorem kD173 : okDk 173 := all40 1 (qcode 173) (by decide +kernel) (fun j hj => match j, hj with | 0, _ => kd173_0)
set_option maxRecDepth 100000 in
theorem kD174 : okDk 174 := all40 1 (qcode 174) (by decide +kernel) (fun j hj => match j, hj with | 0, _ => kd174_0)
set_option maxRecDepth 100000 in
theorem kD175 : okDk 175 := all40 1 (qcode 175) (by decide +kernel) (fun j hj => match j, hj with | 0, _ => kd175_0)
set_option maxRecDepth 100000 in
theorem kD176 : okDk 176 := all40 1 (qcode 176) (by decide +kernel) (fun j hj => match j, hj with | 0, _ => kd176_0)
set_option maxRecDepth 100000 in
theorem kD177 : okDk 177 := all40 1 (qcode 177) (by decide +kernel) (fun j hj => match j, hj with | 0, _ => kd177_0)
set_option maxRecDepth 100000 in
theorem kD178 : okDk 178 := all40 2 (qcode 178) (by decide +kernel) (fun j hj => match j, hj with | 0, _ => kd178_0 | 1, _ => kd178_1)
set_option maxRecDepth 100000 in
theorem kD179 : okDk 179 := all40 2 (qcode 179) (by decide +kernel) (fun j hj => match j, hj with | 0, _ => kd179_0 | 1, _ => kd179_1)
set_option maxRecDepth 100000 in
theorem kD180 : okDk 180 := all40 1 (qcode 180) (by decide +kernel) (fun j hj => match j, hj with | 0, _ => kd180_0)
set_option maxRecDepth 100000 in
theorem kD181 : okDk 181 := all40 1 (qcode 181) (by decide +kernel) (fun j hj => match j, hj with | 0, _ => kd181_0)
set_option maxRecDepth 100000 in
theorem kD182 : okDk 182 := all40 2 (qcode 182) (by decide +kernel) (fun j hj => match j, hj with | 0, _ => kd182_0 | 1, _ => kd182_1)
set_option maxRecDepth 100000 in
theorem kD183 : okDk 183 := all40 2 (qcode 183) (by decide +kernel) (fun j hj => match j, hj with | 0, _ => kd183_0 | 1, _ => kd183_1)
set_option maxRecDepth 100000 in
theorem kD184 : okDk 184 := all40 2 (qcode 184) (by decide +kernel) (fun j hj => match j, hj with | 0, _ => kd184_0 | 1, _ => kd184_1)
set_option maxRecDepth 100000 in
theorem kD185 : okDk 185 := all40 2 (qcode 185) (by decide +kernel) (fun j hj => match j, hj with | 0, _ => kd185_0 | 1, _ => kd185_1)
set_option maxRecDepth 100000 in
theorem kD186 : okDk 186 := all40 8 (qcode 186) (by decide +kernel) (fun j hj => match j, hj with | 0, _ => kd186_0 | 1, _ => kd186_1 | 2, _ => kd186_2 | 3, _ => kd186_3 | 4, _ => kd186_4 | 5, _ => kd186_5 | 6, _ => kd186_6 | 7, _ => kd186_7)
set_option maxRecDepth 100000 in
theorem kD187 : okDk 187 := all40 1 (qcode 187) (by decide +kernel) (fun j hj => match j, hj with | 0, _ => kd187_0)
set_option maxRecDepth 100000 in
theorem kD188 : okDk 188 := all40 1 (qcode 188) (by decide +kernel) (fun j hj => match j, hj with | 0, _ => kd188_0)
set_option maxRecDepth 100000 in
theorem kD189 : okDk 189 := all40 1 (qcode 189) (by decide +kernel) (fun j hj => match j, hj with | 0, _ => kd189_0)
set_option maxRecDepth 100000 in
theorem kD190 : okDk 190 := all40 1 (qcode 190) (by decide +kernel) (fun j hj => match j, hj with | 0, _ => kd190_0)
set_option maxRecDepth 100000 in
theorem kD191 : okDk 191 := all40 1 (qcode 191) (by decide +kernel) (fun j hj => match j, hj with | 0, _ => kd191_0)
set_option maxRecDepth 100000 in
theorem kD192 : okDk 192 := all40 3 (qcode 192) (by decide +kernel) (fun j hj => match j, hj with | 0, _ => kd192_0 | 1, _ => kd192_1 | 2, _ => kd192_2)
set_option maxRecDepth 100000 in
theorem kD193 : okDk 193 := all40 1 (qcode 193) (by decide +kernel) (fun j hj => match j, hj with | 0, _ => kd193_0)
set_option maxRecDepth 100000 in
theorem kD194 : okDk 194 := all40 2 (qcode 194) (by decide +kernel) (fun j hj => match j, hj with | 0, _ => kd194_0 | 1, _ => kd194_1)
set_option maxRecDepth 100000 in
theorem kD195 : okDk 195 := all40 2 (qcode 195) (by decide +kernel) (fun j hj => match j, hj with | 0, _ => kd195_0 | 1, _ => kd195_1)
set_option maxRecDepth 100000 in
theorem kD196 : okDk 196 := all40 1 (qcode 196) (by decide +kernel) (fun j hj => match j, hj with | 0, _ => kd196_0)
set_option maxRecDepth 100000 in
theorem kD197 : okDk 197 := all40 2 (qcode 197) (by decide +kernel) (fun j hj => match j, hj with | 0, _ => kd197_0 | 1, _ => kd197_1)
set_option maxRecDepth 100000 in
theorem kD198 : okDk 198 := all40 2 (qcode 198) (by decide +kernel) (fun j hj => match j, hj with | 0, _ => kd198_0 | 1, _ => kd198_1)
set_option maxRecDepth 100000 in
theorem kD199 : okDk 199 := all40 1 (qcode 199) (by decide +kernel) (fun j hj => match j, hj with | 0, _ => kd199_0)
set_option maxRecDepth 100000 in
theorem kD200 : okDk 200 := all40 1 (qcode 200) (by decide +kernel) (fun j hj => match j, hj with | 0, _ => kd200_0)
set_option maxRecDepth 100000 in
theorem kD201 : okDk 201 := all40 4 (qcode 201) (by decide +kernel) (fun j hj => match j, hj with | 0, _ => kd201_0 | 1, _ => kd201_1 | 2, _ => kd201_2 | 3, _ => kd201_3)
set_option maxRecDepth 100000 in
theorem kD202 : okDk 202 := all40 2 (qcode 202) (by decide +kernel) (fun j hj => match j, hj with | 0, _ => kd202_0 | 1, _ => kd202_1)
set_option maxRecDepth 100000 in
theorem kD203 : okDk 203 := all40 2 (qcode 203) (by decide +kernel) (fun j hj => match j, hj with | 0, _ => kd203_0 | 1, _ => kd203_1)
set_option maxRecDepth 100000 in
theorem kD204 : okDk 204 := all40 1 (qcode 204) (by decide +kernel) (fun j hj => match j, hj with | 0, _ => kd204_0)
set_option maxRecDepth 100000 in
theorem kD205 : okDk 205 := all40 1 (qcode 205) (by decide +kernel) (fun j hj => match j, hj with | 0, _ => kd205_0)
set_option maxRecDepth 100000 in
theorem kD206 : okDk 206 := all40 1 (qcode 206) (by decide +kernel) (fun j hj => match j, hj with | 0, _ => kd206_0)
set_option maxRecDepth 100000 in
theorem kD207 : okDk 207 := all40 2 (qcode 207) (by decide +kernel) (fun j hj => match j, hj with | 0, _ => kd207_0 | 1, _ => kd207_1)
set_option maxRecDepth 100000 in
theorem kD208 : okDk 208 := all40 3 (qcode 208) (by decide +kernel) (fun j hj => match j, hj with | 0, _ => kd208_0 | 1, _ => kd208_1 | 2, _ => kd208_2)
set_option maxRecDepth 100000 in
theorem kD209 : okDk 209 := all40 1 (qcode 209) (by decide +kernel) (fun j hj => match j, hj with | 0, _ => kd209_0)
set_option maxRecDepth 100000 in
theorem kD210 : okDk 210 := all40 1 (qcode 210) (by decide +kernel) (fun j hj => match j, hj with | 0, _ => kd210_0)
set_option maxRecDepth 100000 in
theorem kD211 : okDk 211 := all40 3 (qcode 211) (by decide +kernel) (fun j hj => match j, hj with | 0, _ => kd211_0 | 1, _ => kd211_1 | 2, _ => kd211_2)
set_option maxRecDepth 100000 in
theorem kD212 : okDk 212 := all40 1 (qcode 212) (by decide +kernel) (fun j hj => match j, hj with | 0, _ => kd212_0)
set_option maxRecDepth 100000 in
theorem kD213 : okDk 213 := all40 1 (qcode 213) (by decide +kernel) (fun j hj => match j, hj with | 0, _ => kd213_0)
set_option maxRecDepth 100000 in
theorem kD214 : okDk 214 := all40 2 (qcode 214) (by decide +kernel) (fun j hj => match j, hj with | 0, _ => kd214_0 | 1, _ => kd214_1)
set_option maxRecDepth 100000 in
theorem kD215 : okDk 215 := all40 1 (qcode 215) (by decide +kernel) (fun j hj => match j, hj with | 0, _ => kd215_0)
set_option maxRecDepth 100000 in
theorem kD216 : okDk 216 := all40 2 (qcode 216) (by decide +kernel) (fun j hj => match j, hj with | 0, _ => kd216_0 | 1, _ => kd216_1)
set_option maxRecDepth 100000 in
theorem kD217 : okDk 217 := all40 1 (qcode 217) (by decide +kernel) (fun j hj => match j, hj with | 0, _ => kd217_0)
set_option maxRecDepth 100000 in
theorem kD218 : okDk 218 := all40 1 (qcode 218) (by decide +kernel) (fun j hj => match j, hj with | 0, _ => kd218_0)
set_option maxRecDepth 100000 in
theorem kD219 : okDk 219 := all40 3 (qcode 219) (by decide +kernel) (fun j hj => match j, hj with | 0, _ => kd219_0 | 1, _ => kd219_1 | 2, _ => kd219_2)
set_option maxRecDepth 100000 in
theorem kD220 : okDk 220 := all40 1 (qcode 220) (by decide +kernel) (fun j hj => match j, hj with | 0, _ => kd220_0)
set_option maxRecDepth 100000 in
theorem kD221 : okDk 221 := all40 1 (qcode 221) (by decide +kernel) (fun j hj => match j, hj with | 0, _ => kd221_0)
set_option maxRecDepth 100000 in
theorem kD222 : okDk 222 := all40 1 (qcode 222) (by decide +kernel) (fun j hj => match j, hj with | 0, _ => kd222_0)
set_option maxRecDepth 100000 in
theorem kD223 : okDk 223 := all40 1 (qcode 223) (by decide +kernel) (fun j hj => match j, hj with | 0, _ => kd223_0)
set_option maxRecDepth 100000 in
theorem kD224 : okDk 224 := all40 1 (qcode 224) (by decide +kernel) (fun j hj => match j, hj with | 0, _ => kd224_0)
set_option maxRecDepth 100000 in
theorem kD225 : okDk 225 := all40 1 (qcode 225) (by decide +kernel) (fun j hj => match j, hj with | 0, _ => kd225_0)
set_option maxRecDepth 100000 in
theorem kD226 : okDk 226 := all40 1 (qcode 226) (by decide +kernel) (fun j hj => match j, hj with | 0, _ => kd226_0)
set_option maxRecDepth 100000 in
theorem kD227 : okDk 227 := all40 1 (qcode 227) (by decide +kernel) (fun j hj => match j, hj with | 0, _ => kd227_0)
set_option maxRecDepth 100000 in
theorem kD228 : okDk 228 := all40 1 (qcode 228) (by decide +kernel) (fun j hj => match j, hj with | 0, _ => kd228_0)
set_option maxRecDepth 100000 in
theorem kD229 : okDk 229 := all40 2 (qcode 229) (by decide +kernel) (fun j hj => match j, hj with | 0, _ => kd229_0 | 1, _ => kd229_1)
set_option maxRecDepth 100000 in
theorem kD230 : okDk 230 := all40 1 (qcode 230) (by decide +kernel) (fun j hj => match j, hj with | 0, _ => kd230_0)
set_option maxRecDepth 100000 in
theorem kD231 : okDk 231 := all40 1 (qcode 231) (by decide +kernel) (fun j hj => match j, hj with | 0, _ => kd231_0)
set_option maxRecDepth 100000 in
theorem kD232 : okDk 232 := all40 1 (qcode 232) (by decide +kernel) (fun j hj => match j, hj with | 0, _ => kd232_0)
set_option maxRecDepth 100000 in
theorem kD233 : okDk 233 := all40 2 (qcode 233) (by decide +kernel) (fun j hj => match j, hj with | 0, _ => kd233_0 | 1, _ => kd233_1)
set_option maxRecDepth 100000 in
theorem kD234 : okDk 234 := all40 3 (qcode 234) (by decide +kernel) (fun j hj => match j, hj with | 0, _ => kd234_0 | 1, _ => kd234_1 | 2, _ => kd234_2)
set_option maxRecDepth 100000 in
theorem kD235 : okDk 235 := all40 1 (qcode 235) (by decide +kernel) (fun j hj => match j, hj with | 0, _ => kd235_0)
set_option maxRecDepth 100000 in
theorem kD236 : okDk 236 := all40 3 (qcode 236) (by decide +kernel) (fun j hj => match j, hj with | 0, _ => kd236_0 | 1, _ => kd236_1 | 2, _ => kd236_2)
set_option maxRecDepth 100000 in
theorem kD237 : okDk 237 := all40 1 (qcode 237) (by decide +kernel) (fun j hj => match j, hj with | 0, _ => kd237_0)
set_option maxRecDepth 100000 in
theorem kD238 : okDk 238 := all40 1 (qcode 238) (by decide +kernel) (fun j hj => match j, hj with | 0, _ => kd238_0)
set_option maxRecDepth 100000 in
theorem kD239 : okDk 239 := all40 2 (qcode 239) (by decide +kernel) (fun j hj => match j, hj with | 0, _ => kd239_0 | 1, _ => kd239_1)
set_option maxRecDepth 100000 in
theorem kD240 : okDk 240 := all40 3 (qcode 240) (by decide +kernel) (fun j hj => match j, hj with | 0, _ => kd240_0 | 1, _ => kd240_1 | 2, _ => kd240_2)
set_option maxRecDepth 100000 in
theorem kD241 : okDk 241 := all40 1 (qcode 241) (by decide +kernel) (fun j hj => match j, hj with | 0, _ => kd241_0)
set_option maxRecDepth 100000 in
theorem kD242 : okDk 242 := all40 1 (qcode 242) (by decide +kernel) (fun j hj => match j, hj with | 0, _ => kd242_0)
set_option maxRecDepth 100000 in
theorem kD243 : okDk 243 := all40 1 (qcode 243) (by decide +kernel) (fun j hj => match j, hj with | 0, _ => kd243_0)
set_option maxRecDepth 100000 in
theorem kD244 : okDk 244 := all40 1 (qcode 244) (by decide +kernel) (fun j hj => match j, hj with | 0, _ => kd244_0)
set_option maxRecDepth 100000 in
theorem kD245 : okDk 245 := all40 1 (qcode 245) (by decide +kernel) (fun j hj => match j, hj with | 0, _ => kd245_0)
set_option maxRecDepth 100000 in
theorem kD246 : okDk 246 := all40 1 (qcode 246) (by decide +kernel) (fun j hj => match j, hj with | 0, _ => kd246_0)
set_option maxRecDepth 100000 in
theorem kD247 : okDk 247 := all40 1 (qcode 247) (by decide +kernel) (fun j hj => match j, hj with | 0, _ => kd247_0)
set_option maxRecDepth 100000 in
theorem kD248 : okDk 248 := all40 1 (qcode 248) (by decide +kernel) (fun j hj => match j, hj with | 0, _ => kd248_0)
set_option maxRecDepth 100000 in
theorem kD249 : okDk 249 := all40 1 (qcode 249) (by decide +kernel) (fun j hj => match j, hj with | 0, _ => kd249_0)
set_option maxRecDepth 100000 in
theorem kD250 : okDk 250 := all40 1 (qcode 250) (by decide +kernel) (fun j hj => match j, hj with | 0, _ => kd250_0)
set_option maxRecDepth 100000 in
theorem kD251 : okDk 251 := all40 2 (qcode 251) (by decide +kernel) (fun j hj => match j, hj with | 0, _ => kd251_0 | 1, _ => kd251_1)
set_option maxRecDepth 100000 in
theorem kD252 : okDk 252 := all40 1 (qcode 252) (by decide +kernel) (fun j hj => match j, hj with | 0, _ => kd252_0)
set_option maxRecDepth 100000 in
theorem kD253 : okDk 253 := all40 1 (qcode 253) (by decide +kernel) (fun j hj => match j, hj with | 0, _ => kd253_0)
set_option maxRecDepth 100000 in
theorem kD254 : okDk 254 := all40 1 (qcode 254) (by decide +kernel) (fun j hj => match j, hj with | 0, _ => kd254_0)
set_option maxRecDepth 100000 in
theorem kD255 : okDk 255 := all40 1 (qcode 255) (by decide +kernel) (fun j hj => match j, hj with | 0, _ => kd255_0)
set_option maxRecDepth 100000 in
theorem kD256 : okDk 256 := all40 1 (qcode 256) (by decide +kernel) (fun j hj => match j, hj with | 0, _ => kd256_0)
set_option maxRecDepth 100000 in
theorem kD257 : okDk 257 := all40 1 (qcode 257) (by decide +kernel) (fun j hj => match j, hj with | 0, _ => kd257_0)
set_option maxRecDepth 100000 in
theorem kD258 : okDk 258 := all40 1 (qcode 258) (by decide +kernel) (fun j hj => match j, hj with | 0, _ => kd258_0)
set_option maxRecDepth 100000 in
theorem kD259 : okDk 259 := all40 3 (qcode 259) (by decide +kernel) (fun j hj => match j, hj with | 0, _ => kd259_0 | 1, _ => kd259_1 | 2, _ => kd259_2)
set_option maxRecDepth 100000 in
theorem kD260 : okDk 260 := all40 2 (qcode 260) (by decide +kernel) (fun j hj => match j, hj with | 0, _ => kd260_0 | 1, _ => kd260_1)
set_option maxRecDepth 100000 in
theorem kD261 : okDk 261 := all40 2 (qcode 261) (by decide +kernel) (fun j hj => match j, hj with | 0, _ => kd261_0 | 1, _ => kd261_1)
set_option maxRecDepth 100000 in
theorem kD262 : okDk 262 := all40 4 (qcode 262) (by decide +kernel) (fun j hj => match j, hj with | 0, _ => kd262_0 | 1, _ => kd262_1 | 2, _ => kd262_2 | 3, _ => kd262_3)
set_option maxRecDepth 100000 in
theorem kD263 : okDk 263 := all40 1 (qcode 263) (by decide +kernel) (fun j hj => match j, hj with | 0, _ => kd263_0)
set_option maxRecDepth 100000 in
theorem kD264 : okDk 264 := all40 3 (qcode 264) (by decide +kernel) (fun j hj => match j, hj with | 0, _ => kd264_0 | 1, _ => kd264_1 | 2, _ => kd264_2)
set_option maxRecDepth 100000 in
theorem kD265 : okDk 265 := all40 4 (qcode 265) (by decide +kernel) (fun j hj => match j, hj with | 0, _ => kd265_0 | 1, _ => kd265_1 | 2, _ => kd265_2 | 3, _ => kd265_3)
set_option maxRecDepth 100000 in
theorem kD266 : okDk 266 := all40 3 (qcode 266) (by decide +kernel) (fun j hj => match j, hj with | 0, _ => kd266_0 | 1, _ => kd266_1 | 2, _ => kd266_2)
set_option maxRecDepth 100000 in
theorem kD267 : okDk 267 := all40 3 (qcode 267) (by decide +kernel) (fun j hj => match j, hj with | 0, _ => kd267_0 | 1, _ => kd267_1 | 2, _ => kd267_2)
set_option maxRecDepth 100000 in
theorem kD268 : okDk 268 := all40 1 (qcode 268) (by decide +kernel) (fun j hj => match j, hj with | 0, _ => kd268_0)
set_option maxRecDepth 100000 in
theorem kD269 : okDk 269 := all40 1 (qcode 269) (by decide +kernel) (fun j hj => match j, hj with | 0, _ => kd269_0)
set_option maxRecDepth 100000 in
theorem kD270 : okDk 270 := all40 1 (qcode 270) (by decide +kernel) (fun j hj => match j, hj with | 0, _ => kd270_0)
set_option maxRecDepth 100000 in
theorem kD271 : okDk 271 := all40 1 (qcode 271) (by decide +kernel) (fun j hj => match j, hj with | 0, _ => kd271_0)
set_option maxRecDepth 100000 in
theorem kD272 : okDk 272 := all40 3 (qcode 272) (by decide +kernel) (fun j hj => match j, hj with | 0, _ => kd272_0 | 1, _ => kd272_1 | 2, _ => kd272_2)
set_option maxRecDepth 100000 in
theorem kD273 : okDk 273 := all40 2 (qcode 273) (by decide +kernel) (fun j hj => match j, hj with | 0, _ => kd273_0 | 1, _ => kd273_1)
set_option maxRecDepth 100000 in
theorem kD274 : okDk 274 := all40 1 (qcode 274) (by decide +kernel) (fun j hj => match j, hj with | 0, _ => kd274_0)
set_option maxRecDepth 100000 in
theorem kD275 : okDk 275 := all40 2 (qcode 275) (by decide +kernel) (fun j hj => match j, hj with | 0, _ => kd275_0 | 1, _ => kd275_1)
set_option maxRecDepth 100000 in
theorem kD276 : okDk 276 := all40 2 (qcode 276) (by decide +kernel) (fun j hj => match j, hj with | 0, _ => kd276_0 | 1, _ => kd276_1)
set_option maxRecDepth 100000 in
theorem kD277 : okDk 277 := all40 1 (qcode 277) (by decide +kernel) (fun j hj => match j, hj with | 0, _ => kd277_0)
set_option maxRecDepth 100000 in
theorem kD278 : okDk 278 := all40 1 (qcode 278) (by decide +kernel) (fun j hj => match j, hj with | 0, _ => kd278_0)
set_option maxRecDepth 100000 in
theorem kD279 : okDk 279 := all40 2 (qcode 279) (by decide +kernel) (fun j hj => match j, hj with | 0, _ => kd279_0 | 1, _ => kd279_1)
set_option maxRecDepth 100000 in
theorem kD280 : okDk 280 := all40 1 (qcode 280) (by decide +kernel) (fun j hj => match j, hj with | 0, _ => kd280_0)
set_option maxRecDepth 100000 in
theorem kD281 : okDk 281 := all40 2 (qcode 281) (by decide +kernel) (fun j hj => match j, hj with | 0, _ => kd281_0 | 1, _ => kd281_1)
set_option maxRecDepth 100000 in
theorem kD282 : okDk 282 := all40 1 (qcode 282) (by decide +kernel) (fun j hj => match j, hj with | 0, _ => kd282_0)
set_option maxRecDepth 100000 in
theorem kD283 : okDk 283 := all40 2 (qcode 283) (by decide +kernel) (fun j hj => match j, hj with | 0, _ => kd283_0 | 1, _ => kd283_1)
set_option maxRecDepth 100000 in
theorem kD284 : okDk 284 := all40 1 (qcode 284) (by decide +kernel) (fun j hj => match j, hj with | 0, _ => kd284_0)
set_option maxRecDepth 100000 in
theorem kD285 : okDk 285 := all40 1 (qcode 285) (by decide +kernel) (fun j hj => match j, hj with | 0, _ => kd285_0)
set_option maxRecDepth 100000 in
theorem kD286 : okDk 286 := all40 1 (qcode 286) (by decide +kernel) (fun j hj => match j, hj with | 0, _ => kd286_0)
set_option maxRecDepth 100000 in
theorem kD287 : okDk 287 := all40 1 (qcode 287) (by decide +kernel) (fun j hj => match j, hj with | 0, _ => kd287_0)
set_option maxRecDepth 100000 in
theorem kD288 : okDk 288 := all40 4 (qcode 288) (by decide +kernel) (fun j hj => match j, hj with | 0, _ => kd288_0 | 1, _ => kd288_1 | 2, _ => kd288_2 | 3, _ => kd288_3)
set_option maxRecDepth 100000 in
theorem kD289 : okDk 289 := all40 2 (qcode 289) (by decide +kernel) (fun j hj => match j, hj with | 0, _ => kd289_0 | 1, _ => kd289_1)
set_option maxRecDepth 100000 in
theorem kD290 : okDk 290 := all40 2 (qcode 290) (by decide +kernel) (fun j hj => match j, hj with | 0, _ => kd290_0 | 1, _ => kd290_1)
set_option maxRecDepth 100000 in
theorem kD291 : okDk 291 := all40 3 (qcode 291) (by decide +kernel) (fun j hj => match j, hj with | 0, _ => kd291_0 | 1, _ => kd291_1 | 2, _ => kd291_2)
set_option maxRecDepth 100000 in
theorem kD292 : okDk 292 := all40 2 (qcode 292) (by decide +kernel) (fun j hj => match j, hj with | 0, _ => kd292_0 | 1, _ => kd292_1)
set_option maxRecDepth 100000 in
theorem kD293 : okDk 293 := all40 1 (qcode 293) (by decide +kernel) (fun j hj => match j, hj with | 0, _ => kd293_0)
set_option maxRecDepth 100000 in
theorem kD294 : okDk 294 := all40 1 (qcode 294) (by decide +kernel) (fun j hj => match j, hj with | 0, _ => kd294_0)
set_option maxRecDepth 100000 in
theorem kD295 : okDk 295 := all40 1 (qcode 295) (by decide +kernel) (fun j hj => match j, hj with | 0, _ => kd295_0)
set_option maxRecDepth 100000 in
theorem kD296 : okDk 296 := all40 1 (qcode 296) (by decide +kernel) (fun j hj => match j, hj with | 0, _ => kd296_0)
set_option maxRecDepth 100000 in
theorem kD297 : okDk 297 := all40 1 (qcode 297) (by decide +kernel) (fun j hj => match j, hj with | 0, _ => kd297_0)
set_option maxRecDepth 100000 in
theorem kD298 : okDk 298 := all40 2 (qcode 298) (by decide +kernel) (fun j hj => match j, hj with | 0, _ => kd298_0 | 1, _ => kd298_1)
set_option maxRecDepth 100000 in
theorem kD299 : okDk 299 := all40 2 (qcode 299) (by decide +kernel) (fun j hj => match j, hj with | 0, _ => kd299_0 | 1, _ => kd299_1)
set_option maxRecDepth 100000 in
theorem kD300 : okDk 300 := all40 1 (qcode 300) (by decide +kernel) (fun j hj => match j, hj with | 0, _ => kd300_0)
set_option maxRecDepth 100000 in
theorem kD301 : okDk 301 := all40 1 (qcode 301) (by decide +kernel) (fun j hj => match j, hj with | 0, _ => kd301_0)
set_option maxRecDepth 100000 in
theorem kD302 : okDk 302 := all40 2 (qcode 302) (by decide +kernel) (fun j hj => match j, hj with | 0, _ => kd302_0 | 1, _ => kd302_1)
set_option maxRecDepth 100000 in
theorem kD303 : okDk 303 := all40 7 (qcode 303) (by decide +kernel) (fun j hj => match j, hj with | 0, _ => kd303_0 | 1, _ => kd303_1 | 2, _ => kd303_2 | 3, _ => kd303_3 | 4, _ => kd303_4 | 5, _ => kd303_5 | 6, _ => kd303_6)
set_option maxRecDepth 100000 in
theorem kD304 : okDk 304 := all40 1 (qcode 304) (by decide +kernel) (fun j hj => match j, hj with | 0, _ => kd304_0)
set_option maxRecDepth 100000 in
theorem kD305 : okDk 305 := all40 3 (qcode 305) (by decide +kernel) (fun j hj => match j, hj with | 0, _ => kd305_0 | 1, _ => kd305_1 | 2, _ => kd305_2)
theorem kE306 : ∀ j ∈ [0, 1, 2, 3, 4, 5, 6, 7, 8, 9, 10, 11, 12, 13, 14, 15, 16, 17, 18, 19, 20, 21, 22, 23, 24, 25, 26, 27, 28, 29, 30, 31, 32, 33, 34, 35, 36, 37, 38], (((qcode 306).drop (40 * j)).take 40).all (okD (qb 306)) = true := List.forall_mem_cons.mpr ⟨kd306_0, List.forall_mem_cons.mpr ⟨kd306_1, List.forall_mem_cons.mpr ⟨kd306_2, List.forall_mem_cons.mpr ⟨kd306_3, List.forall_mem_cons.mpr ⟨kd306_4, List.forall_mem_cons.mpr ⟨kd306_5, List.forall_mem_cons.mpr ⟨kd306_6, List.forall_mem_cons.mpr ⟨kd306_7, List.forall_mem_cons.mpr ⟨kd306_8, List.forall_mem_cons.mpr ⟨kd306_9, List.forall_mem_cons.mpr ⟨kd306_10, List.forall_mem_cons.mpr ⟨kd306_11, List.forall_mem_cons.mpr ⟨kd306_12, List.forall_mem_cons.mpr ⟨kd306_13, List.forall_mem_cons.mpr ⟨kd306_14, List.forall_mem_cons.mpr ⟨kd306_15, List.forall_mem_cons.mpr ⟨kd306_16, List.forall_mem_cons.mpr ⟨kd306_17, List.forall_mem_cons.mpr ⟨kd306_18, List.forall_mem_cons.mpr ⟨kd306_19, List.forall_mem_cons.mpr ⟨kd306_20, List.forall_mem_cons.mpr ⟨kd306_21, List.forall_mem_cons.mpr ⟨kd306_22, List.forall_mem_cons.mpr ⟨kd306_23, List.forall_mem_cons.mpr ⟨kd306_24, List.forall_mem_cons.mpr ⟨kd306_25, List.forall_mem_cons.mpr ⟨kd306_26, List.forall_mem_cons.mpr ⟨kd306_27, List.forall_mem_cons.mpr ⟨kd306_28, List.forall_mem_cons.mpr ⟨kd306_29, List.forall_mem_cons.mpr ⟨kd306_30, List.forall_mem_cons.mpr ⟨kd306_31, List.forall_mem_cons.mpr ⟨kd306_32, List.forall_mem_cons.mpr ⟨kd306_33, List.forall_mem_cons.mpr ⟨kd306_34, List.forall_mem_cons.mpr ⟨kd306_35, List.forall_mem_cons.mpr ⟨kd306_36, List.forall_mem_cons.mpr ⟨kd306_37, List.forall_mem_cons.mpr ⟨kd306_38, fun _ h => absurd h List.not_mem_nil⟩⟩⟩⟩⟩⟩⟩⟩⟩⟩⟩⟩⟩⟩⟩⟩⟩⟩⟩⟩⟩⟩⟩⟩⟩⟩⟩⟩⟩⟩⟩⟩⟩⟩⟩⟩⟩⟩⟩
set_option maxRecDepth 100000 in
theorem kD306 : okDk 306 := all40 39 (qcode 306) (by decide +kernel) (fun j hj => kE306 j (by rw [show ([0, 1, 2, 3, 4, 5, 6, 7, 8, 9, 10, 11, 12, 13, 14, 15, 16, 17, 18, 19, 20, 21, 22, 23, 24, 25, 26, 27, 28, 29, 30, 31, 32, 33, 34, 35, 36, 37, 38] : List Nat) = List.range 39 by decide +kernel]; exact List.mem_range.mpr hj))
set_option maxRecDepth 100000 in
theorem kD307 : okDk 307 := all40 2 (qcode 307) (by decide +kernel) (fun j hj => match j, hj with | 0, _ => kd307_0 | 1, _ => kd307_1)
set_option maxRecDepth 100000 in
theorem kD308 : okDk 308 := all40 1 (qcode 308) (by decide +kernel) (fun j hj => match j, hj with | 0, _ => kd308_0)
set_option maxRecDepth 100000 in
theorem kD309 : okDk 309 := all40 1 (qcode 309) (by decide +kernel) (fun j hj => match j, hj with | 0, _ => kd309_0)
set_option maxRecDepth 100000 in
theorem kD310 : okDk 310 := all40 1 (qcode 310) (by decide +kernel) (fun j hj => match j, hj with | 0, _ => kd310_0)
set_option maxRecDepth 100000 in
theorem kD311 : okDk 311 := all40 1 (qcode 311) (by decide +kernel) (fun j hj => match j, hj with | 0, _ => kd311_0)
theorem kS0 : ∀ k ∈ [0, 1, 2, 3, 4, 5, 6, 7, 8, 9, 10, 11, 12, 13, 14, 15], okDk k := List.forall_mem_cons.mpr ⟨kD0, List.forall_mem_cons.mpr ⟨kD1, List.forall_mem_cons.mpr ⟨kD2, List.forall_mem_cons.mpr ⟨kD3, List.forall_mem_cons.mpr ⟨kD4, List.forall_mem_cons.mpr ⟨kD5, List.forall_mem_cons.mpr ⟨kD6, List.forall_mem_cons.mpr ⟨kD7, List.forall_mem_cons.mpr ⟨kD8, List.forall_mem_cons.mpr ⟨kD9, List.forall_mem_cons.mpr ⟨kD10, List.forall_mem_cons.mpr ⟨kD11, List.forall_mem_cons.mpr ⟨kD12, List.forall_mem_cons.mpr ⟨kD13, List.forall_mem_cons.mpr ⟨kD14, List.forall_mem_cons.mpr ⟨kD15, fun _ h => absurd h List.not_mem_nil⟩⟩⟩⟩⟩⟩⟩⟩⟩⟩⟩⟩⟩⟩⟩⟩
theorem kS1 : ∀ k ∈ [16, 17, 18, 19, 20, 21, 22, 23, 24, 25, 26, 27, 28, 29, 30, 31], okDk k := List.forall_mem_cons.mpr ⟨kD16, List.forall_mem_cons.mpr ⟨kD17, List.forall_mem_cons.mpr ⟨kD18, List.forall_mem_cons.mpr ⟨kD19, List.forall_mem_cons.mpr ⟨kD20, List.forall_mem_cons.mpr ⟨kD21, List.forall_mem_cons.mpr ⟨kD22, List.forall_mem_cons.mpr ⟨kD23, List.forall_mem_cons.mpr ⟨kD24, List.forall_mem_cons.mpr ⟨kD25, List.forall_mem_cons.mpr ⟨kD26, List.forall_mem_cons.mpr ⟨kD27, List.forall_mem_cons.mpr ⟨kD28, List.forall_mem_cons.mpr ⟨kD29, List.forall_mem_cons.mpr ⟨kD30, List.forall_mem_cons.mpr ⟨kD31, fun _ h => absurd h List.not_mem_nil⟩⟩⟩⟩⟩⟩⟩⟩⟩⟩⟩⟩⟩⟩⟩⟩
theorem kS2 : ∀ k ∈ [32, 33, 34, 35, 36, 37, 38, 39, 40, 41, 42, 43, 44, 45, 46, 47], okDk k := List.forall_mem_cons.mpr ⟨kD32, List.forall_mem_cons.mpr ⟨kD33, List.forall_mem_cons.mpr ⟨kD34, List.forall_mem_cons.mpr ⟨kD35, List.forall_mem_cons.mpr ⟨kD36, List.forall_mem_cons.mpr ⟨kD37, List.forall_mem_cons.mpr ⟨kD38, List.forall_mem_cons.mpr ⟨kD39, List.forall_mem_cons.mpr ⟨kD40, List.forall_mem_cons.mpr ⟨kD41, List.forall_mem_cons.mpr ⟨kD42, List.forall_mem_cons.mpr ⟨kD43, List.forall_mem_cons.mpr ⟨kD44, List.forall_mem_cons.mpr ⟨kD45, List.forall_mem_cons.mpr ⟨kD46, List.forall_mem_cons.mpr ⟨kD47, fun _ h => absurd h List.not_mem_nil⟩⟩⟩⟩⟩⟩⟩⟩⟩⟩⟩⟩⟩⟩⟩⟩
theorem kS3 : ∀ k ∈ [48, 49, 50, 51, 52, 53, 54, 55, 56, 57, 58, 59, 60, 61, 62, 63], okDk k := List.forall_mem_cons.mpr ⟨kD48, List.forall_mem_cons.mpr ⟨kD49, List.forall_mem_cons.mpr ⟨kD50, List.forall_mem_cons.mpr ⟨kD51, List.forall_mem_cons.mpr ⟨kD52, List.forall_mem_cons.mpr ⟨kD53, List.forall_mem_cons.mpr ⟨kD54, List.forall_mem_cons.mpr ⟨kD55, List.forall_mem_cons.mpr ⟨kD56, List.forall_mem_cons.mpr ⟨kD57, List.forall_mem_cons.mpr ⟨kD58, List.forall_mem_cons.mpr ⟨kD59, List.forall_mem_cons.mpr ⟨kD60, List.forall_mem_cons.mpr ⟨kD61, List.forall_mem_cons.mpr ⟨kD62, List.forall_mem_cons.mpr ⟨kD63, fun _ h => absurd h List.not_mem_nil⟩⟩⟩⟩⟩⟩⟩⟩⟩⟩⟩⟩⟩⟩⟩⟩
theorem kS4 : ∀ k ∈ [64, 65, 66, 67, 68, 69, 70, 71, 72, 73, 74, 75, 76, 77, 78, 79], okDk k := List.forall_mem_cons.mpr ⟨kD64, List.forall_mem_cons.mpr ⟨kD65, List.forall_mem_cons.mpr ⟨kD66, List.forall_mem_cons.mpr ⟨kD67, List.forall_mem_cons.mpr ⟨kD68, List.forall_mem_cons.mpr ⟨kD69, List.forall_mem_cons.mpr ⟨kD70, List.forall_mem_cons.mpr ⟨kD71, List.forall_mem_cons.mpr ⟨kD72, List.forall_mem_cons.mpr ⟨kD73, List.forall_mem_cons.mpr ⟨kD74, List.forall_mem_cons.mpr ⟨kD75, List.forall_mem_cons.mpr ⟨kD76, List.forall_mem_cons.mpr ⟨kD77, List.forall_mem_cons.mpr ⟨kD78, List.forall_mem_cons.mpr ⟨kD79, fun _ h => absurd h List.not_mem_nil⟩⟩⟩⟩⟩⟩⟩⟩⟩⟩⟩⟩⟩⟩⟩⟩
theorem kS5 : ∀ k ∈ [80, 81, 82, 83, 84, 85, 86, 87, 88, 89, 90, 91, 92, 93, 94, 95], okDk k := List.forall_mem_cons.mpr ⟨kD80, List.forall_mem_cons.mpr ⟨kD81, List.forall_mem_cons.mpr ⟨kD82, List.forall_mem_cons.mpr ⟨kD83, List.forall_mem_cons.mpr ⟨kD84, List.forall_mem_cons.mpr ⟨kD85, List.forall_mem_cons.mpr ⟨kD86, List.forall_mem_cons.mpr ⟨kD87, List.forall_mem_cons.mpr ⟨kD88, List.forall_mem_cons.mpr ⟨kD89, List.forall_mem_cons.mpr ⟨kD90, List.forall_mem_cons.mpr ⟨kD91, List.forall_mem_cons.mpr ⟨kD92, List.forall_mem_cons.mpr ⟨kD93, List.forall_mem_cons.mpr ⟨kD94, List.forall_mem_cons.mpr ⟨kD95, fun _ h => absurd h List.not_mem_nil⟩⟩⟩⟩⟩⟩⟩⟩⟩⟩⟩⟩⟩⟩⟩⟩
theorem kS6 : ∀ k ∈ [96, 97, 98, 99, 100, 101, 102, 103, 104, 105, 106, 107, 108, 109, 110, 111], okDk k := List.forall_mem_cons.mpr ⟨kD96, List.forall_mem_cons.mpr ⟨kD97, List.forall_mem_cons.mpr ⟨kD98, List.forall_mem_cons.mpr ⟨kD99, List.forall_mem_cons.mpr ⟨kD100, List.forall_mem_cons.mpr ⟨kD101, List.forall_mem_cons.mpr ⟨kD102, List.forall_mem_cons.mpr ⟨kD103, List.forall_mem_cons.mpr ⟨kD104, List.forall_mem_cons.mpr ⟨kD105, List.forall_mem_cons.mpr ⟨kD106, List.forall_mem_cons.mpr ⟨kD107, List.forall_mem_cons.mpr ⟨kD108, List.forall_mem_cons.mpr ⟨kD109, List.forall_mem_cons.mpr ⟨kD110, List.forall_mem_cons.mpr ⟨kD111, fun _ h => absurd h List.not_mem_nil⟩⟩⟩⟩⟩⟩⟩⟩⟩⟩⟩⟩⟩⟩⟩⟩
theorem kS7 : ∀ k ∈ [112, 113, 114, 115, 116, 117, 118, 119, 120, 121, 122, 123, 124, 125, 126, 127], okDk k := List.forall_mem_cons.mpr ⟨kD112, List.forall_mem_cons.mpr ⟨kD113, List.forall_mem_cons.mpr ⟨kD114, List.forall_mem_cons.mpr ⟨kD115, List.forall_mem_cons.mpr ⟨kD116, List.forall_mem_cons.mpr ⟨kD117, List.forall_mem_cons.mpr ⟨kD118, List.forall_mem_cons.mpr ⟨kD119, List.forall_mem_cons.mpr ⟨kD120, List.forall_mem_cons.mpr ⟨kD121, List.forall_mem_cons.mpr ⟨kD122, List.forall_mem_cons.mpr ⟨kD123, List.forall_mem_cons.mpr ⟨kD124, List.forall_mem_cons.mpr ⟨kD125, List.forall_mem_cons.mpr ⟨kD126, List.forall_mem_cons.mpr ⟨kD127, fun _ h => absurd h List.not_mem_nil⟩⟩⟩⟩⟩⟩⟩⟩⟩⟩⟩⟩⟩⟩⟩⟩
theorem kS8 : ∀ k ∈ [128, 129, 130, 131, 132, 133, 134, 135, 136, 137, 138, 139, 140, 141, 142, 143], okDk k := List.forall_mem_cons.mpr ⟨kD128, List.forall_mem_cons.mpr ⟨kD129, List.forall_mem_cons.mpr ⟨kD130, List.forall_mem_cons.mpr ⟨kD131, List.forall_mem_cons.mpr ⟨kD132, List.forall_mem_cons.mpr ⟨kD133, List.forall_mem_cons.mpr ⟨kD134, List.forall_mem_cons.mpr ⟨kD135, List.forall_mem_cons.mpr ⟨kD136, List.forall_mem_cons.mpr ⟨kD137, List.forall_mem_cons.mpr ⟨kD138, List.forall_mem_cons.mpr ⟨kD139, List.forall_mem_cons.mpr ⟨kD140, List.forall_mem_cons.mpr ⟨kD141, List.forall_mem_cons.mpr ⟨kD142, List.forall_mem_cons.mpr ⟨kD143, fun _ h => absurd h List.not_mem_nil⟩⟩⟩⟩⟩⟩⟩⟩⟩⟩⟩⟩⟩⟩⟩⟩
theorem kS9 : ∀ k ∈ [144, 145, 146, 147, 148, 149, 150, 151, 152, 153, 154, 155, 156, 157, 158, 159], okDk k := List.forall_mem_cons.mpr ⟨kD144, List.forall_mem_cons.mpr ⟨kD145, List.forall_mem_cons.mpr ⟨kD146, List.forall_mem_cons.mpr ⟨kD147, List.forall_mem_cons.mpr ⟨kD148, List.forall_mem_cons.mpr ⟨kD149, List.forall_mem_cons.mpr ⟨kD150, List.forall_mem_cons.mpr ⟨kD151, List.forall_mem_cons.mpr ⟨kD152, List.forall_mem_cons.mpr ⟨kD153, List.forall_mem_cons.mpr ⟨kD154, List.forall_mem_cons.mpr ⟨kD155, List.forall_mem_cons.mpr ⟨kD156, List.forall_mem_cons.mpr ⟨kD157, List.forall_mem_cons.mpr ⟨kD158, List.forall_mem_cons.mpr ⟨kD159, fun _ h => absurd h List.not_mem_nil⟩⟩⟩⟩⟩⟩⟩⟩⟩⟩⟩⟩⟩⟩⟩⟩
theorem kS10 : ∀ k ∈ [160, 161, 162, 163, 164, 165, 166, 167, 168, 169, 170, 171, 172, 173, 174, 175], okDk k := List.forall_mem_cons.mpr ⟨kD160, List.forall_mem_cons.mpr ⟨kD161, List.forall_mem_cons.mpr ⟨kD162, List.forall_mem_cons.mpr ⟨kD163, List.forall_mem_cons.mpr ⟨kD164, List.forall_mem_cons.mpr ⟨kD165, List.forall_mem_cons.mpr ⟨kD166, List.forall_mem_cons.mpr ⟨kD167, List.forall_mem_cons.mpr ⟨kD168, List.forall_mem_cons.mpr ⟨kD169, List.forall_mem_cons.mpr ⟨kD170, List.forall_mem_cons.mpr ⟨kD171, List.forall_mem_cons.mpr ⟨kD172, List.forall_mem_cons.mpr ⟨kD173, List.forall_mem_cons.mpr ⟨kD174, List.forall_mem_cons.mpr ⟨kD175, fun _ h => absurd h List.not_mem_nil⟩⟩⟩⟩⟩⟩⟩⟩⟩⟩⟩⟩⟩⟩⟩⟩
theorem kS11 : ∀ k ∈ [176, 177, 178, 179, 180, 181, 182, 183, 184, 185, 186, 187, 188, 189, 190, 191], okDk k := List.forall_mem_cons.mpr ⟨kD176, List.forall_mem_cons.mpr ⟨kD177, List.forall_mem_cons.mpr ⟨kD178, List.forall_mem_cons.mpr ⟨kD179, List.forall_mem_cons.mpr ⟨kD180, List.forall_mem_cons.mpr ⟨kD181, List.forall_mem_cons.mpr ⟨kD182, List.forall_mem_cons.mpr ⟨kD183, List.forall_mem_cons.mpr ⟨kD184, List.forall_mem_cons.mpr ⟨kD185, List.forall_mem_cons.mpr ⟨kD186, List.forall_mem_cons.mpr ⟨kD187, List.forall_mem_cons.mpr ⟨kD188, List.forall_mem_cons.mpr ⟨kD189, List.forall_mem_cons.mpr ⟨kD190, List.forall_mem_cons.mpr ⟨kD191, fun _ h => absurd h List.not_mem_nil⟩⟩⟩⟩⟩⟩⟩⟩⟩⟩⟩⟩⟩⟩⟩⟩
theorem kS12 : ∀ k ∈ [192, 193, 194, 195, 196, 197, 198, 199, 200, 201, 202, 203, 204, 205, 206, 207], okDk k := List.forall_mem_cons.mpr ⟨kD192, List.forall_mem_cons.mpr ⟨kD193, List.forall_mem_cons.mpr ⟨kD194, List.forall_mem_cons.mpr ⟨kD195, List.forall_mem_cons.mpr ⟨kD196, List.forall_mem_cons.mpr ⟨kD197, List.forall_mem_cons.mpr ⟨kD198, List.forall_mem_cons.mpr ⟨kD199, List.forall_mem_cons.mpr ⟨kD200, List.forall_mem_cons.mpr ⟨kD201, List.forall_mem_cons.mpr ⟨kD202, List.forall_mem_cons.mpr ⟨kD203, List.forall_mem_cons.mpr ⟨kD204, List.forall_mem_cons.mpr ⟨kD205, List.forall_mem_cons.mpr ⟨kD206, List.forall_mem_cons.mpr ⟨kD207, fun _ h => absurd h List.not_mem_nil⟩⟩⟩⟩⟩⟩⟩⟩⟩⟩⟩⟩⟩⟩⟩⟩
theorem kS13 : ∀ k ∈ [208, 209, 210, 211, 212, 213, 214, 215, 216, 217, 218, 219, 220, 221, 222, 223], okDk k := List.forall_mem_cons.mpr ⟨kD208, List.forall_mem_cons.mpr ⟨kD209, List.forall_mem_cons.mpr ⟨kD210, List.forall_mem_cons.mpr ⟨kD211, List.forall_mem_cons.mpr ⟨kD212, List.forall_mem_cons.mpr ⟨kD213, List.forall_mem_cons.mpr ⟨kD214, List.forall_mem_cons.mpr ⟨kD215, List.forall_mem_cons.mpr ⟨kD216, List.forall_mem_cons.mpr ⟨kD217, List.forall_mem_cons.mpr ⟨kD218, List.forall_mem_cons.mpr ⟨kD219, List.forall_mem_cons.mpr ⟨kD220, List.forall_mem_cons.mpr ⟨kD221, List.forall_mem_cons.mpr ⟨kD222, List.forall_mem_cons.mpr ⟨kD223, fun _ h => absurd h List.not_mem_nil⟩⟩⟩⟩⟩⟩⟩⟩⟩⟩⟩⟩⟩⟩⟩⟩
theorem kS14 : ∀ k ∈ [224, 225, 226, 227, 228, 229, 230, 231, 232, 233, 234, 235, 236, 237, 238, 239], okDk k := List.forall_mem_cons.mpr ⟨kD224, List.forall_mem_cons.mpr ⟨kD225, List.forall_mem_cons.mpr ⟨kD226, List.forall_mem_cons.mpr ⟨kD227, List.forall_mem_cons.mpr ⟨kD228, List.forall_mem_cons.mpr ⟨kD229, List.forall_mem_cons.mpr ⟨kD230, List.forall_mem_cons.mpr ⟨kD231, List.forall_mem_cons.mpr ⟨kD232, List.forall_mem_cons.mpr ⟨kD233, List.forall_mem_cons.mpr ⟨kD234, List.forall_mem_cons.mpr ⟨kD235, List.forall_mem_cons.mpr ⟨kD236, List.forall_mem_cons.mpr ⟨kD237, List.forall_mem_cons.mpr ⟨kD238, List.forall_mem_cons.mpr ⟨kD239, fun _ h => absurd h List.not_mem_nil⟩⟩⟩⟩⟩⟩⟩⟩⟩⟩⟩⟩⟩⟩⟩⟩
theorem kS15 : ∀ k ∈ [240, 241, 242, 243, 244, 245, 246, 247, 248, 249, 250, 251, 252, 253, 254, 255], okDk k := List.forall_mem_cons.mpr ⟨kD240, List.forall_mem_cons.mpr ⟨kD241, List.forall_mem_cons.mpr ⟨kD242, List.forall_mem_cons.mpr ⟨kD243, List.forall_mem_cons.mpr ⟨kD244, List.forall_mem_cons.mpr ⟨kD245, List.forall_mem_cons.mpr ⟨kD246, List.forall_mem_cons.mpr ⟨kD247, List.forall_mem_cons.mpr ⟨kD248, List.forall_mem_cons.mpr ⟨kD249, List.forall_mem_cons.mpr ⟨kD250, List.forall_mem_cons.mpr ⟨kD251, List.forall_mem_cons.mpr ⟨kD252, List.forall_mem_cons.mpr ⟨kD253, List.forall_mem_cons.mpr ⟨kD254, List.forall_mem_cons.mpr ⟨kD255, fun _ h => absurd h List.not_mem_nil⟩⟩⟩⟩⟩⟩⟩⟩⟩⟩⟩⟩⟩⟩⟩⟩
theorem kS16 : ∀ k ∈ [256, 257, 258, 259, 260, 261, 262, 263, 264, 265, 266, 267, 268, 269, 270, 271], okDk k := List.forall_mem_cons.mpr ⟨kD256, List.forall_mem_cons.mpr ⟨kD257, List.forall_mem_cons.mpr ⟨kD258, List.forall_mem_cons.mpr ⟨kD259, List.forall_mem_cons.mpr ⟨kD260, List.forall_mem_cons.mpr ⟨kD261, List.forall_mem_cons.mpr ⟨kD262, List.forall_mem_cons.mpr ⟨kD263, List.forall_mem_cons.mpr ⟨kD264, List.forall_mem_cons.mpr ⟨kD265, List.forall_mem_cons.mpr ⟨kD266, List.forall_mem_cons.mpr ⟨kD267, List.forall_mem_cons.mpr ⟨kD268, List.forall_mem_cons.mpr ⟨kD269, List.forall_mem_cons.mpr ⟨kD270, List.forall_mem_cons.mpr ⟨kD271, fun _ h => absurd h List.not_mem_nil⟩⟩⟩⟩⟩⟩⟩⟩⟩⟩⟩⟩⟩⟩⟩⟩
theorem kS17 : ∀ k ∈ [272, 273, 274, 275, 276, 277, 278, 279, 280, 281, 282, 283, 284, 285, 286, 287], okDk k := List.forall_mem_cons.mpr ⟨kD272, List.forall_mem_cons.mpr ⟨kD273, List.forall_mem_cons.mpr ⟨kD274, List.forall_mem_cons.mpr ⟨kD275, List.forall_mem_cons.mpr ⟨kD276, List.forall_mem_cons.mpr ⟨kD277, List.forall_mem_cons.mpr ⟨kD278, List.forall_mem_cons.mpr ⟨kD279, List.forall_mem_cons.mpr ⟨kD280, List.forall_mem_cons.mpr ⟨kD281, List.forall_mem_cons.mpr ⟨kD282, List.forall_mem_cons.mpr ⟨kD283, List.forall_mem_cons.mpr ⟨kD284, List.forall_mem_cons.mpr ⟨kD285, List.forall_mem_cons.mpr ⟨kD286, List.forall_mem_cons.mpr ⟨kD287, fun _ h => absurd h List.not_mem_nil⟩⟩⟩⟩⟩⟩⟩⟩⟩⟩⟩⟩⟩⟩⟩⟩
theorem kS18 : ∀ k ∈ [288, 289, 290, 291, 292, 293, 294, 295, 296, 297, 298, 299, 300, 301, 302, 303], okDk k := List.forall_mem_cons.mpr ⟨kD288, List.forall_mem_cons.mpr ⟨kD289, List.forall_mem_cons.mpr ⟨kD290, List.forall_mem_cons.mpr ⟨kD291, List.forall_mem_cons.mpr ⟨kD292, List.forall_mem_cons.mpr ⟨kD293, List.forall_mem_cons.mpr ⟨kD294, List.forall_mem_cons.mpr ⟨kD295, List.forall_mem_cons.mpr ⟨kD296, List.forall_mem_cons.mpr ⟨kD297, List.forall_mem_cons.mpr ⟨kD298, List.forall_mem_cons.mpr ⟨kD299, List.forall_mem_cons.mpr ⟨kD300, List.forall_mem_cons.mpr ⟨kD301, List.forall_mem_cons.mpr ⟨kD302, List.forall_mem_cons.mpr ⟨kD303, fun _ h => absurd h List.not_mem_nil⟩⟩⟩⟩⟩⟩⟩⟩⟩⟩⟩⟩⟩⟩⟩⟩
theorem kS19 : ∀ k ∈ [304, 305, 306, 307, 308, 309, 310, 311], okDk k := List.forall_mem_cons.mpr ⟨kD304, List.forall_mem_cons.mpr ⟨kD305, List.forall_mem_cons.mpr ⟨kD306, List.forall_mem_cons.mpr ⟨kD307, List.forall_mem_cons.mpr ⟨kD308, List.forall_mem_cons.mpr ⟨kD309, List.forall_mem_cons.mpr ⟨kD310, List.forall_mem_cons.mpr ⟨kD311, fun _ h => absurd h List.not_mem_nil⟩⟩⟩⟩⟩⟩⟩⟩
set_option maxRecDepth 100000 in
theorem kAll : ∀ k ∈ List.range 312, okDk k := by
  rw [show List.range 312 = [0, 1, 2, 3, 4, 5, 6, 7, 8, 9, 10, 11, 12, 13, 14, 15] ++ ([16, 17, 18, 19, 20, 21, 22, 23, 24, 25, 26, 27, 28, 29, 30, 31] ++ ([32, 33, 34, 35, 36, 37, 38, 39, 40, 41, 42, 43, 44, 45, 46, 47] ++ ([48, 49, 50, 51, 52, 53, 54, 55, 56, 57, 58, 59, 60, 61, 62, 63] ++ ([64, 65, 66, 67, 68, 69, 70, 71, 72, 73, 74, 75, 76, 77, 78, 79] ++ ([80, 81, 82, 83, 84, 85, 86, 87, 88, 89, 90, 91, 92, 93, 94, 95] ++ ([96, 97, 98, 99, 100, 101, 102, 103, 104, 105, 106, 107, 108, 109, 110, 111] ++ ([112, 113, 114, 115, 116, 117, 118, 119, 120, 121, 122, 123, 124, 125, 126, 127] ++ ([128, 129, 130, 131, 132, 133, 134, 135, 136, 137, 138, 139, 140, 141, 142, 143] ++ ([144, 145, 146, 147, 148, 149, 150, 151, 152, 153, 154, 155, 156, 157, 158, 159] ++ ([160, 161, 162, 163, 164, 165, 166, 167, 168, 169, 170, 171, 172, 173, 174, 175] ++ ([176, 177, 178, 179, 180, 181, 182, 183, 184, 185, 186, 187, 188, 189, 190, 191] ++ ([192, 193, 194, 195, 196, 197, 198, 199, 200, 201, 202, 203, 204, 205, 206, 207] ++ ([208, 209, 210, 211, 212, 213, 214, 215, 216, 217, 218, 219, 220, 221, 222, 223] ++ ([224, 225, 226, 227, 228, 229, 230, 231, 232, 233, 234, 235, 236, 237, 238, 239] ++ ([240, 241, 242, 243, 244, 245, 246, 247, 248, 249, 250, 251, 252, 253, 254, 255] ++ ([256, 257, 258, 259, 260, 261, 262, 263, 264, 265, 266, 267, 268, 269, 270, 271] ++ ([272, 273, 274, 275, 276, 277, 278, 279, 280, 281, 282, 283, 284, 285, 286, 287] ++ ([288, 289, 290, 291, 292, 293, 294, 295, 296, 297, 298, 299, 300, 301, 302, 303] ++ ([304, 305, 306, 307, 308, 309, 310, 311]))))))))))))))))))) by decide +kernel]
  exact List.forall_mem_append.mpr ⟨kS0, List.forall_mem_append.mpr ⟨kS1, List.forall_mem_append.mpr ⟨kS2, List.forall_mem_append.mpr ⟨kS3, List.forall_mem_append.mpr ⟨kS4, List.forall_mem_append.mpr ⟨kS5, List.forall_mem_append.mpr ⟨kS6, List.forall_mem_append.mpr ⟨kS7, List.forall_mem_append.mpr ⟨kS8, List.forall_mem_append.mpr ⟨kS9, List.forall_mem_append.mpr ⟨kS10, List.forall_mem_append.mpr ⟨kS11, List.forall_mem_append.mpr ⟨kS12, List.forall_mem_append.mpr ⟨kS13, List.forall_mem_append.mpr ⟨kS14, List.forall_mem_append.mpr ⟨kS15, List.forall_mem_append.mpr ⟨kS16, List.forall_mem_append.mpr ⟨kS17, List.forall_mem_append.mpr ⟨kS18, kS19⟩⟩⟩⟩⟩⟩⟩⟩⟩⟩⟩⟩⟩⟩⟩⟩⟩⟩⟩
