set_option maxRecDepth 100000 in
theorem kd0_0 : (((qcode 0).drop 0).take 40).all (okD (qb 0)) = true := by decide +kernel
set_option maxRecDepth 100000 in
theorem kd1_0 : (((qcode 1).drop 0).take 40).all (okD (qb 1)) = true := by decide +kernel
set_option maxRecDepth 100000 in
theorem kd2_0 : (((qcode 2).drop 0).take 40).all (okD (qb 2)) = true := by decide +kernel
set_option maxRecDepth 100000 in
theorem kd3_0 : (((qcode 3).drop 0).take 40).all (okD (qb 3)) = true := by decide +kernel
set_option maxRecDepth 100000 in
theorem kd4_0 : (((qcode 4).drop 0).take 40).all (okD (qb 4)) = true := by decide +kernel
set_option maxRecDepth 100000 in
theorem kd5_0 : (((qcode 5).drop 0).take 40).all (okD (qb 5)) = true := by decide +kernel
set_option maxRecDepth 100000 in
theorem kd6_0 : (((qcode 6).drop 0).take 40).all (okD (qb 6)) = true := by decide +kernel
set_option maxRecDepth 100000 in
theorem kd7_0 : (((qcode 7).drop 0).take 40).all (okD (qb 7)) = true := by decide +kernel
set_option maxRecDepth 100000 in
theorem kd8_0 : (((qcode 8).drop 0).take 40).all (okD (qb 8)) = true := by decide +kernel
set_option maxRecDepth 100000 in
theorem kd9_0 : (((qcode 9).drop 0).take 40).all (okD (qb 9)) = true := by decide +kernel
set_option maxRecDepth 100000 in
theorem kd9_1 : (((qcode 9).drop 40).take 40).all (okD (qb 9)) = true := by decide +kernel
set_option maxRecDepth 100000 in
theorem kd10_0 : (((qcode 10).drop 0).take 40).all (okD (qb 10)) = true := by decide +kernel
set_option maxRecDepth 100000 in
theorem kd11_0 : (((qcode 11).drop 0).take 40).all (okD (qb 11)) = true := by decide +kernel
set_option maxRecDepth 100000 in
theorem kd11_1 : (((qcode 11).drop 40).take 40).all (okD (qb 11)) = true := by decide +kernel
set_option maxRecDepth 100000 in
theorem kd12_0 : (((qcode 12).drop 0).take 40).all (okD (qb 12)) = true := by decide +kernel
set_option maxRecDepth 100000 in
theorem kd13_0 : (((qcode 13).drop 0).take 40).all (okD (qb 13)) = true := by decide +kernel
set_option maxRecDepth 100000 in
theorem kd14_0 : (((qcode 14).drop 0).take 40).all (okD (qb 14)) = true := by decide +kernel
set_option maxRecDepth 100000 in
theorem kd15_0 : (((qcode 15).drop 0).take 40).all (okD (qb 15)) = true := by decide +kernel
set_option maxRecDepth 100000 in
theorem kd16_0 : (((qcode 16).drop 0).take 40).all (okD (qb 16)) = true := by decide +kernel
set_option maxRecDepth 100000 in
theorem kd17_0 : (((qcode 17).drop 0).take 40).all (okD (qb 17)) = true := by decide +kernel
set_option maxRecDepth 100000 in
theorem kd18_0 : (((qcode 18).drop 0).take 40).all (okD (qb 18)) = true := by decide +kernel
set_option maxRecDepth 100000 in
theorem kd19_0 : (((qcode 19).drop 0).take 40).all (okD (qb 19)) = true := by decide +kernel
set_option maxRecDepth 100000 in
theorem kd19_1 : (((qcode 19).drop 40).take 40).all (okD (qb 19)) = true := by decide +kernel
set_option maxRecDepth 100000 in
theorem kd19_2 : (((qcode 19).drop 80).take 40).all (okD (qb 19)) = true := by decide +kernel
set_option maxRecDepth 100000 in
theorem kd20_0 : (((qcode 20).drop 0).take 40).all (okD (qb 20)) = true := by decide +kernel
set_option maxRecDepth 100000 in
theorem kd21_0 : (((qcode 21).drop 0).take 40).all (okD (qb 21)) = true := by decide +kernel
set_option maxRecDepth 100000 in
theorem kd21_1 : (((qcode 21).drop 40).take 40).all (okD (qb 21)) = true := by decide +kernel
set_option maxRecDepth 100000 in
theorem kd22_0 : (((qcode 22).drop 0).take 40).all (okD (qb 22)) = true := by decide +kernel
set_option maxRecDepth 100000 in
theorem kd22_1 : (((qcode 22).drop 40).take 40).all (okD (qb 22)) = true := by decide +kernel
set_option maxRecDepth 100000 in
theorem kd23_0 : (((qcode 23).drop 0).take 40).all (okD (qb 23)) = true := by decide +kernel
set_option maxRecDepth 100000 in
theorem kd23_1 : (((qcode 23).drop 40).take 40).all (okD (qb 23)) = true := by decide +kernel
set_option maxRecDepth 100000 in
theorem kd24_0 : (((qcode 24).drop 0).take 40).all (okD (qb 24)) = true := by decide +kernel
set_option maxRecDepth 100000 in
theorem kd24_1 : (((qcode 24).drop 40).take 40).all (okD (qb 24)) = true := by decide +kernel
set_option maxRecDepth 100000 in
theorem kd25_0 : (((qcode 25).drop 0).take 40).all (okD (qb 25)) = true := by decide +kernel
set_option maxRecDepth 100000 in
theorem kd26_0 : (((qcode 26).drop 0).take 40).all (okD (qb 26)) = true := by decide +kernel
set_option maxRecDepth 100000 in
theorem kd27_0 : (((qcode 27).drop 0).take 40).all (okD (qb 27)) = true := by decide +kernel
set_option maxRecDepth 100000 in
theorem kd27_1 : (((qcode 27).drop 40).take 40).all (okD (qb 27)) = true := by decide +kernel
set_option maxRecDepth 100000 in
theorem kd27_2 : (((qcode 27).drop 80).take 40).all (okD (qb 27)) = true := by decide +kernel
set_option maxRecDepth 100000 in
theorem kd28_0 : (((qcode 28).drop 0).take 40).all (okD (qb 28)) = true := by decide +kernel
set_option maxRecDepth 100000 in
theorem kd28_1 : (((qcode 28).drop 40).take 40).all (okD (qb 28)) = true := by decide +kernel
set_option maxRecDepth 100000 in
theorem kd29_0 : (((qcode 29).drop 0).take 40).all (okD (qb 29)) = true := by decide +kernel
set_option maxRecDepth 100000 in
theorem kd30_0 : (((qcode 30).drop 0).take 40).all (okD (qb 30)) = true := by decide +kernel
set_option maxRecDepth 100000 in
theorem kd30_1 : (((qcode 30).drop 40).take 40).all (okD (qb 30)) = true := by decide +kernel
set_option maxRecDepth 100000 in
theorem kd31_0 : (((qcode 31).drop 0).take 40).all (okD (qb 31)) = true := by decide +kernel
set_option maxRecDepth 100000 in
theorem kd32_0 : (((qcode 32).drop 0).take 40).all (okD (qb 32)) = true := by decide +kernel
set_option maxRecDepth 100000 in
theorem kd33_0 : (((qcode 33).drop 0).take 40).all (okD (qb 33)) = true := by decide +kernel
set_option maxRecDepth 100000 in
theorem kd34_0 : (((qcode 34).drop 0).take 40).all (okD (qb 34)) = true := by decide +kernel
set_option maxRecDepth 100000 in
theorem kd35_0 : (((qcode 35).drop 0).take 40).all (okD (qb 35)) = true := by decide +kernel
set_option maxRecDepth 100000 in
theorem kd35_1 : (((qcode 35).drop 40).take 40).all (okD (qb 35)) = true := by decide +kernel
set_option maxRecDepth 100000 in
theorem kd35_2 : (((qcode 35).drop 80).take 40).all (okD (qb 35)) = true := by decide +kernel
set_option maxRecDepth 100000 in
theorem kd36_0 : (((qcode 36).drop 0).take 40).all (okD (qb 36)) = true := by decide +kernel
set_option maxRecDepth 100000 in
theorem kd37_0 : (((qcode 37).drop 0).take 40).all (okD (qb 37)) = true := by decide +kernel
set_option maxRecDepth 100000 in
theorem kd38_0 : (((qcode 38).drop 0).take 40).all (okD (qb 38)) = true := by decide +kernel
set_option maxRecDepth 100000 in
theorem kd38_1 : (((qcode 38).drop 40).take 40).all (okD (qb 38)) = true := by decide +kernel
set_option maxRecDepth 100000 in
theorem kd39_0 : (((qcode 39).drop 0).take 40).all (okD (qb 39)) = true := by decide +kernel
set_option maxRecDepth 100000 in
theorem kd39_1 : (((qcode 39).drop 40).take 40).all (okD (qb 39)) = true := by decide +kernel
set_option maxRecDepth 100000 in
theorem kd39_2 : (((qcode 39).drop 80).take 40).all (okD (qb 39)) = true := by decide +kernel
set_option maxRecDepth 100000 in
theorem kd40_0 : (((qcode 40).drop 0).take 40).all (okD (qb 40)) = true := by decide +kernel
set_option maxRecDepth 100000 in
theorem kd40_1 : (((qcode 40).drop 40).take 40).all (okD (qb 40)) = true := by decide +kernel
set_option maxRecDepth 100000 in
theorem kd41_0 : (((qcode 41).drop 0).take 40).all (okD (qb 41)) = true := by decide +kernel
set_option maxRecDepth 100000 in
theorem kd41_1 : (((qcode 41).drop 40).take 40).all (okD (qb 41)) = true := by decide +kernel
set_option maxRecDepth 100000 in
theorem kd42_0 : (((qcode 42).drop 0).take 40).all (okD (qb 42)) = true := by decide +kernel
set_option maxRecDepth 100000 in
theorem kd42_1 : (((qcode 42).drop 40).take 40).all (okD (qb 42)) = true := by decide +kernel
set_option maxRecDepth 100000 in
theorem kd43_0 : (((qcode 43).drop 0).take 40).all (okD (qb 43)) = true := by decide +kernel
set_option maxRecDepth 100000 in
theorem kd44_0 : (((qcode 44).drop 0).take 40).all (okD (qb 44)) = true := by decide +kernel
set_option maxRecDepth 100000 in
theorem kd44_1 : (((qcode 44).drop 40).take 40).all (okD (qb 44)) = true := by decide +kernel
set_option maxRecDepth 100000 in
theorem kd45_0 : (((qcode 45).drop 0).take 40).all (okD (qb 45)) = true := by decide +kernel
set_option maxRecDepth 100000 in
theorem kd46_0 : (((qcode 46).drop 0).take 40).all (okD (qb 46)) = true := by decide +kernel
set_option maxRecDepth 100000 in
theorem kd47_0 : (((qcode 47).drop 0).take 40).all (okD (qb 47)) = true := by decide +kernel
set_option maxRecDepth 100000 in
theorem kd47_1 : (((qcode 47).drop 40).take 40).all (okD (qb 47)) = true := by decide +kernel
set_option maxRecDepth 100000 in
theorem kd47_2 : (((qcode 47).drop 80).take 40).all (okD (qb 47)) = true := by decide +kernel
set_option maxRecDepth 100000 in
theorem kd47_3 : (((qcode 47).drop 120).take 40).all (okD (qb 47)) = true := by decide +kernel
set_option maxRecDepth 100000 in
theorem kd48_0 : (((qcode 48).drop 0).take 40).all (okD (qb 48)) = true := by decide +kernel
set_option maxRecDepth 100000 in
theorem kd48_1 : (((qcode 48).drop 40).take 40).all (okD (qb 48)) = true := by decide +kernel
set_option maxRecDepth 100000 in
theorem kd49_0 : (((qcode 49).drop 0).take 40).all (okD (qb 49)) = true := by decide +kernel
set_option maxRecDepth 100000 in
theorem kd49_1 : (((qcode 49).drop 40).take 40).all (okD (qb 49)) = true := by decide +kernel
set_option maxRecDepth 100000 in
theorem kd50_0 : (((qcode 50).drop 0).take 40).all (okD (qb 50)) = true := by decide +kernel
set_option maxRecDepth 100000 in
theorem kd50_1 : (((qcode 50).drop 40).take 40).all (okD (qb 50)) = true := by decide +kernel
set_option maxRecDepth 100000 in
theorem kd50_2 : (((qcode 50).drop 80).take 40).all (okD (qb 50)) = true := by decide +kernel
set_option maxRecDepth 100000 in
theorem kd51_0 : (((qcode 51).drop 0).take 40).all (okD (qb 51)) = true := by decide +kernel
set_option maxRecDepth 100000 in
theorem kd51_1 : (((qcode 51).drop 40).take 40).all (okD (qb 51)) = true := by decide +kernel
set_option maxRecDepth 100000 in
theorem kd52_0 : (((qcode 52).drop 0).take 40).all (okD (qb 52)) = true := by decide +kernel
set_option maxRecDepth 100000 in
theorem kd53_0 : (((qcode 53).drop 0).take 40).all (okD (qb 53)) = true := by decide +kernel
set_option maxRecDepth 100000 in
theorem kd54_0 : (((qcode 54).drop 0).take 40).all (okD (qb 54)) = true := by decide +kernel
set_option maxRecDepth 100000 in
theorem kd55_0 : (((qcode 55).drop 0).take 40).all (okD (qb 55)) = true := by decide +kernel
set_option maxRecDepth 100000 in
theorem kd56_0 : (((qcode 56).drop 0).take 40).all (okD (qb 56)) = true := by decide +kernel
set_option maxRecDepth 100000 in
theorem kd57_0 : (((qcode 57).drop 0).take 40).all (okD (qb 57)) = true := by decide +kernel
set_option maxRecDepth 100000 in
theorem kd58_0 : (((qcode 58).drop 0).take 40).all (okD (qb 58)) = true := by decide +kernel
set_option maxRecDepth 100000 in
theorem kd58_1 : (((qcode 58).drop 40).take 40).all (okD (qb 58)) = true := by decide +kernel
set_option maxRecDepth 100000 in
theorem kd59_0 : (((qcode 59).drop 0).take 40).all (okD (qb 59)) = true := by decide +kernel
set_option maxRecDepth 100000 in
theorem kd59_1 : (((qcode 59).drop 40).take 40).all (okD (qb 59)) = true := by decide +kernel
set_option maxRecDepth 100000 in
theorem kd60_0 : (((qcode 60).drop 0).take 40).all (okD (qb 60)) = true := by decide +kernel
set_option maxRecDepth 100000 in
theorem kd61_0 : (((qcode 61).drop 0).take 40).all (okD (qb 61)) = true := by decide +kernel
set_option maxRecDepth 100000 in
theorem kd62_0 : (((qcode 62).drop 0).take 40).all (okD (qb 62)) = true := by decide +kernel
set_option maxRecDepth 100000 in
theorem kd63_0 : (((qcode 63).drop 0).take 40).all (okD (qb 63)) = true := by decide +kernel
set_option maxRecDepth 100000 in
theorem kd64_0 : (((qcode 64).drop 0).take 40).all (okD (qb 64)) = true := by decide +kernel
set_option maxRecDepth 100000 in
theorem kd65_0 : (((qcode 65).drop 0).take 40).all (okD (qb 65)) = true := by decide +kernel
set_option maxRecDepth 100000 in
theorem kd66_0 : (((qcode 66).drop 0).take 40).all (okD (qb 66)) = true := by decide +kernel
set_option maxRecDepth 100000 in
theorem kd67_0 : (((qcode 67).drop 0).take 40).all (okD (qb 67)) = true := by decide +kernel
set_option maxRecDepth 100000 in
theorem kd68_0 : (((qcode 68).drop 0).take 40).all (okD (qb 68)) = true := by decide +kernel
set_option maxRecDepth 100000 in
theorem kd69_0 : (((qcode 69).drop 0).take 40).all (okD (qb 69)) = true := by decide +kernel
set_option maxRecDepth 100000 in
theorem kd70_0 : (((qcode 70).drop 0).take 40).all (okD (qb 70)) = true := by decide +kernel
set_option maxRecDepth 100000 in
theorem kd71_0 : (((qcode 71).drop 0).take 40).all (okD (qb 71)) = true := by decide +kernel
set_option maxRecDepth 100000 in
theorem kd72_0 : (((qcode 72).drop 0).take 40).all (okD (qb 72)) = true := by decide +kernel
set_option maxRecDepth 100000 in
theorem kd73_0 : (((qcode 73).drop 0).take 40).all (okD (qb 73)) = true := by decide +kernel
set_option maxRecDepth 100000 in
theorem kd74_0 : (((qcode 74).drop 0).take 40).all (okD (qb 74)) = true := by decide +kernel
set_option maxRecDepth 100000 in
theorem kd75_0 : (((qcode 75).drop 0).take 40).all (okD (qb 75)) = true := by decide +kernel
set_option maxRecDepth 100000 in
theorem kd76_0 : (((qcode 76).drop 0).take 40).all (okD (qb 76)) = true := by decide +kernel
set_option maxRecDepth 100000 in
theorem kd76_1 : (((qcode 76).drop 40).take 40).all (okD (qb 76)) = true := by decide +kernel
set_option maxRecDepth 100000 in
theorem kd77_0 : (((qcode 77).drop 0).take 40).all (okD (qb 77)) = true := by decide +kernel
set_option maxRecDepth 100000 in
theorem kd77_1 : (((qcode 77).drop 40).take 40).all (okD (qb 77)) = true := by decide +kernel
set_option maxRecDepth 100000 in
theorem kd78_0 : (((qcode 78).drop 0).take 40).all (okD (qb 78)) = true := by decide +kernel
set_option maxRecDepth 100000 in
theorem kd79_0 : (((qcode 79).drop 0).take 40).all (okD (qb 79)) = true := by decide +kernel
set_option maxRecDepth 100000 in
theorem kd79_1 : (((qcode 79).drop 40).take 40).all (okD (qb 79)) = true := by decide +kernel
set_option maxRecDepth 100000 in
theorem kd80_0 : (((qcode 80).drop 0).take 40).all (okD (qb 80)) = true := by decide +kernel
set_option maxRecDepth 100000 in
theorem kd81_0 : (((qcode 81).drop 0).take 40).all (okD (qb 81)) = true := by decide +kernel
set_option maxRecDepth 100000 in
theorem kd82_0 : (((qcode 82).drop 0).take 40).all (okD (qb 82)) = true := by decide +kernel
set_option maxRecDepth 100000 in
theorem kd82_1 : (((qcode 82).drop 40).take 40).all (okD (qb 82)) = true := by decide +kernel
set_option maxRecDepth 100000 in
theorem kd83_0 : (((qcode 83).drop 0).take 40).all (okD (qb 83)) = true := by decide +kernel
set_option maxRecDepth 100000 in
theorem kd84_0 : (((qcode 84).drop 0).take 40).all (okD (qb 84)) = true := by decide +kernel
set_option maxRecDepth 100000 in
theorem kd85_0 : (((qcode 85).drop 0).take 40).all (okD (qb 85)) = true := by decide +kernel
set_option maxRecDepth 100000 in
theorem kd85_1 : (((qcode 85).drop 40).take 40).all (okD (qb 85)) = true := by decide +kernel
set_option maxRecDepth 100000 in
theorem kd86_0 : (((qcode 86).drop 0).take 40).all (okD (qb 86)) = true := by decide +kernel
set_option maxRecDepth 100000 in
theorem kd87_0 : (((qcode 87).drop 0).take 40).all (okD (qb 87)) = true := by decide +kernel
set_option maxRecDepth 100000 in
theorem kd88_0 : (((qcode 88).drop 0).take 40).all (okD (qb 88)) = true := by decide +kernel
set_option maxRecDepth 100000 in
theorem kd89_0 : (((qcode 89).drop 0).take 40).all (okD (qb 89)) = true := by decide +kernel
set_option maxRecDepth 100000 in
theorem kd90_0 : (((qcode 90).drop 0).take 40).all (okD (qb 90)) = true := by decide +kernel
set_option maxRecDepth 100000 in
theorem kd91_0 : (((qcode 91).drop 0).take 40).all (okD (qb 91)) = true := by decide +kernel
set_option maxRecDepth 100000 in
theorem kd92_0 : (((qcode 92).drop 0).take 40).all (okD (qb 92)) = true := by decide +kernel
set_option maxRecDepth 100000 in
theorem kd93_0 : (((qcode 93).drop 0).take 40).all (okD (qb 93)) = true := by decide +kernel
set_option maxRecDepth 100000 in
theorem kd94_0 : (((qcode 94).drop 0).take 40).all (okD (qb 94)) = true := by decide +kernel
set_option maxRecDepth 100000 in
theorem kd95_0 : (((qcode 95).drop 0).take 40).all (okD (qb 95)) = true := by decide +kernel
set_option maxRecDepth 100000 in
theorem kd96_0 : (((qcode 96).drop 0).take 40).all (okD (qb 96)) = true := by decide +kernel
set_option maxRecDepth 100000 in
theorem kd97_0 : (((qcode 97).drop 0).take 40).all (okD (qb 97)) = true := by decide +kernel
set_option maxRecDepth 100000 in
theorem kd98_0 : (((qcode 98).drop 0).take 40).all (okD (qb 98)) = true := by decide +kernel
set_option maxRecDepth 100000 in
theorem kd99_0 : (((qcode 99).drop 0).take 40).all (okD (qb 99)) = true := by decide +kernel
