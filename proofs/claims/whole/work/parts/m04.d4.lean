set_option maxRecDepth 100000 in
theorem kd306_0 : (((qcode 306).drop 0).take 40).all (okD (qb 306)) = true := by decide +kernel
set_option maxRecDepth 100000 in
theorem kd306_1 : (((qcode 306).drop 40).take 40).all (okD (qb 306)) = true := by decide +kernel
set_option maxRecDepth 100000 in
theorem kd306_2 : (((qcode 306).drop 80).take 40).all (okD (qb 306)) = true := by decide +kernel
set_option maxRecDepth 100000 in
theorem kd306_3 : (((qcode 306).drop 120).take 40).all (okD (qb 306)) = true := by decide +kernel
set_option maxRecDepth 100000 in
theorem kd306_4 : (((qcode 306).drop 160).take 40).all (okD (qb 306)) = true := by decide +kernel
set_option maxRecDepth 100000 in
theorem kd306_5 : (((qcode 306).drop 200).take 40).all (okD (qb 306)) = true := by decide +kernel
set_option maxRecDepth 100000 in
theorem kd306_6 : (((qcode 306).drop 240).take 40).all (okD (qb 306)) = true := by decide +kernel
set_option maxRecDepth 100000 in
theorem kd306_7 : (((qcode 306).drop 280).take 40).all (okD (qb 306)) = true := by decide +kernel
set_option maxRecDepth 100000 in
theorem kd306_8 : (((qcode 306).drop 320).take 40).all (okD (qb 306)) = true := by decide +kernel
set_option maxRecDepth 100000 in
theorem kd306_9 : (((qcode 306).drop 360).take 40).all (okD (qb 306)) = true := by decide +kernel
set_option maxRecDepth 100000 in
theorem kd306_10 : (((qcode 306).drop 400).take 40).all (okD (qb 306)) = true := by decide +kernel
set_option maxRecDepth 100000 in
theorem kd306_11 : (((qcode 306).drop 440).take 40).all (okD (qb 306)) = true := by decide +kernel
set_option maxRecDepth 100000 in
theorem kd306_12 : (((qcode 306).drop 480).take 40).all (okD (qb 306)) = true := by decide +kernel
set_option maxRecDepth 100000 in
theorem kd306_13 : (((qcode 306).drop 520).take 40).all (okD (qb 306)) = true := by decide +kernel
set_option maxRecDepth 100000 in
theorem kd306_14 : (((qcode 306).drop 560).take 40).all (okD (qb 306)) = true := by decide +kernel
set_option maxRecDepth 100000 in
theorem kd306_15 : (((qcode 306).drop 600).take 40).all (okD (qb 306)) = true := by decide +kernel
set_option maxRecDepth 100000 in
theorem kd306_16 : (((qcode 306).drop 640).take 40).all (okD (qb 306)) = true := by decide +kernel
set_option maxRecDepth 100000 in
theorem kd306_17 : (((qcode 306).drop 680).take 40).all (okD (qb 306)) = true := by decide +kernel
set_option maxRecDepth 100000 in
theorem kd306_18 : (((qcode 306).drop 720).take 40).all (okD (qb 306)) = true := by decide +kernel
set_option maxRecDepth 100000 in
theorem kd306_19 : (((qcode 306).drop 760).take 40).all (okD (qb 306)) = true := by decide +kernel
set_option maxRecDepth 100000 in
theorem kd306_20 : (((qcode 306).drop 800).take 40).all (okD (qb 306)) = true := by decide +kernel
set_option maxRecDepth 100000 in
theorem kd306_21 : (((qcode 306).drop 840).take 40).all (okD (qb 306)) = true := by decide +kernel
set_option maxRecDepth 100000 in
theorem kd306_22 : (((qcode 306).drop 880).take 40).all (okD (qb 306)) = true := by decide +kernel
set_option maxRecDepth 100000 in
theorem kd306_23 : (((qcode 306).drop 920).take 40).all (okD (qb 306)) = true := by decide +kernel
set_option maxRecDepth 100000 in
theorem kd306_24 : (((qcode 306).drop 960).take 40).all (okD (qb 306)) = true := by decide +kernel
set_option maxRecDepth 100000 in
theorem kd306_25 : (((qcode 306).drop 1000).take 40).all (okD (qb 306)) = true := by decide +kernel
set_option maxRecDepth 100000 in
theorem kd306_26 : (((qcode 306).drop 1040).take 40).all (okD (qb 306)) = true := by decide +kernel
set_option maxRecDepth 100000 in
theorem kd306_27 : (((qcode 306).drop 1080).take 40).all (okD (qb 306)) = true := by decide +kernel
set_option maxRecDepth 100000 in
theorem kd306_28 : (((qcode 306).drop 1120).take 40).all (okD (qb 306)) = true := by decide +kernel
set_option maxRecDepth 100000 in
theorem kd306_29 : (((qcode 306).drop 1160).take 40).all (okD (qb 306)) = true := by decide +kernel
set_option maxRecDepth 100000 in
theorem kd306_30 : (((qcode 306).drop 1200).take 40).all (okD (qb 306)) = true := by decide +kernel
set_option maxRecDepth 100000 in
theorem kd306_31 : (((qcode 306).drop 1240).take 40).all (okD (qb 306)) = true := by decide +kernel
set_option maxRecDepth 100000 in
theorem kd306_32 : (((qcode 306).drop 1280).take 40).all (okD (qb 306)) = true := by decide +kernel
set_option maxRecDepth 100000 in
theorem kd306_33 : (((qcode 306).drop 1320).take 40).all (okD (qb 306)) = true := by decide +kernel
set_option maxRecDepth 100000 in
theorem kd306_34 : (((qcode 306).drop 1360).take 40).all (okD (qb 306)) = true := by decide +kernel
set_option maxRecDepth 100000 in
theorem kd306_35 : (((qcode 306).drop 1400).take 40).all (okD (qb 306)) = true := by decide +kernel
set_option maxRecDepth 100000 in
theorem kd306_36 : (((qcode 306).drop 1440).take 40).all (okD (qb 306)) = true := by decide +kernel
set_option maxRecDepth 100000 in
theorem kd306_37 : (((qcode 306).drop 1480).take 40).all (okD (qb 306)) = true := by decide +kernel
set_option maxRecDepth 100000 in
theorem kd306_38 : (((qcode 306).drop 1520).take 40).all (okD (qb 306)) = true := by decide +kernel
