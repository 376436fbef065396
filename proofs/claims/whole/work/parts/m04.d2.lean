set_option maxRecDepth 100000 in
theorem kd100_0 : (((qcode 100).drop 0).take 40).all (okD (qb 100)) = true := by decide +kernel
set_option maxRecDepth 100000 in
theorem kd101_0 : (((qcode 101).drop 0).take 40).all (okD (qb 101)) = true := by decide +kernel
set_option maxRecDepth 100000 in
theorem kd102_0 : (((qcode 102).drop 0).take 40).all (okD (qb 102)) = true := by decide +kernel
set_option maxRecDepth 100000 in
theorem kd103_0 : (((qcode 103).drop 0).take 40).all (okD (qb 103)) = true := by decide +kernel
set_option maxRecDepth 100000 in
theorem kd103_1 : (((qcode 103).drop 40).take 40).all (okD (qb 103)) = true := by decide +kernel
set_option maxRecDepth 100000 in
theorem kd104_0 : (((qcode 104).drop 0).take 40).all (okD (qb 104)) = true := by decide +kernel
set_option maxRecDepth 100000 in
theorem kd105_0 : (((qcode 105).drop 0).take 40).all (okD (qb 105)) = true := by decide +kernel
set_option maxRecDepth 100000 in
theorem kd106_0 : (((qcode 106).drop 0).take 40).all (okD (qb 106)) = true := by decide +kernel
set_option maxRecDepth 100000 in
theorem kd107_0 : (((qcode 107).drop 0).take 40).all (okD (qb 107)) = true := by decide +kernel
set_option maxRecDepth 100000 in
theorem kd107_1 : (((qcode 107).drop 40).take 40).all (okD (qb 107)) = true := by decide +kernel
set_option maxRecDepth 100000 in
theorem kd108_0 : (((qcode 108).drop 0).take 40).all (okD (qb 108)) = true := by decide +kernel
set_option maxRecDepth 100000 in
theorem kd108_1 : (((qcode 108).drop 40).take 40).all (okD (qb 108)) = true := by decide +kernel
set_option maxRecDepth 100000 in
theorem kd109_0 : (((qcode 109).drop 0).take 40).all (okD (qb 109)) = true := by decide +kernel
set_option maxRecDepth 100000 in
theorem kd110_0 : (((qcode 110).drop 0).take 40).all (okD (qb 110)) = true := by decide +kernel
set_option maxRecDepth 100000 in
theorem kd110_1 : (((qcode 110).drop 40).take 40).all (okD (qb 110)) = true := by decide +kernel
set_option maxRecDepth 100000 in
theorem kd111_0 : (((qcode 111).drop 0).take 40).all (okD (qb 111)) = true := by decide +kernel
set_option maxRecDepth 100000 in
theorem kd112_0 : (((qcode 112).drop 0).take 40).all (okD (qb 112)) = true := by decide +kernel
set_option maxRecDepth 100000 in
theorem kd113_0 : (((qcode 113).drop 0).take 40).all (okD (qb 113)) = true := by decide +kernel
set_option maxRecDepth 100000 in
theorem kd113_1 : (((qcode 113).drop 40).take 40).all (okD (qb 113)) = true := by decide +kernel
set_option maxRecDepth 100000 in
theorem kd114_0 : (((qcode 114).drop 0).take 40).all (okD (qb 114)) = true := by decide +kernel
set_option maxRecDepth 100000 in
theorem kd115_0 : (((qcode 115).drop 0).take 40).all (okD (qb 115)) = true := by decide +kernel
set_option maxRecDepth 100000 in
theorem kd116_0 : (((qcode 116).drop 0).take 40).all (okD (qb 116)) = true := by decide +kernel
set_option maxRecDepth 100000 in
theorem kd117_0 : (((qcode 117).drop 0).take 40).all (okD (qb 117)) = true := by decide +kernel
set_option maxRecDepth 100000 in
theorem kd117_1 : (((qcode 117).drop 40).take 40).all (okD (qb 117)) = true := by decide +kernel
set_option maxRecDepth 100000 in
theorem kd118_0 : (((qcode 118).drop 0).take 40).all (okD (qb 118)) = true := by decide +kernel
set_option maxRecDepth 100000 in
theorem kd119_0 : (((qcode 119).drop 0).take 40).all (okD (qb 119)) = true := by decide +kernel
set_option maxRecDepth 100000 in
theorem kd120_0 : (((qcode 120).drop 0).take 40).all (okD (qb 120)) = true := by decide +kernel
set_option maxRecDepth 100000 in
theorem kd121_0 : (((qcode 121).drop 0).take 40).all (okD (qb 121)) = true := by decide +kernel
set_option maxRecDepth 100000 in
theorem kd122_0 : (((qcode 122).drop 0).take 40).all (okD (qb 122)) = true := by decide +kernel
set_option maxRecDepth 100000 in
theorem kd123_0 : (((qcode 123).drop 0).take 40).all (okD (qb 123)) = true := by decide +kernel
set_option maxRecDepth 100000 in
theorem kd124_0 : (((qcode 124).drop 0).take 40).all (okD (qb 124)) = true := by decide +kernel
set_option maxRecDepth 100000 in
theorem kd125_0 : (((qcode 125).drop 0).take 40).all (okD (qb 125)) = true := by decide +kernel
set_option maxRecDepth 100000 in
theorem kd126_0 : (((qcode 126).drop 0).take 40).all (okD (qb 126)) = true := by decide +kernel
set_option maxRecDepth 100000 in
theorem kd127_0 : (((qcode 127).drop 0).take 40).all (okD (qb 127)) = true := by decide +kernel
set_option maxRecDepth 100000 in
theorem kd128_0 : (((qcode 128).drop 0).take 40).all (okD (qb 128)) = true := by decide +kernel
set_option maxRecDepth 100000 in
theorem kd128_1 : (((qcode 128).drop 40).take 40).all (okD (qb 128)) = true := by decide +kernel
set_option maxRecDepth 100000 in
theorem kd129_0 : (((qcode 129).drop 0).take 40).all (okD (qb 129)) = true := by decide +kernel
set_option maxRecDepth 100000 in
theorem kd130_0 : (((qcode 130).drop 0).take 40).all (okD (qb 130)) = true := by decide +kernel
set_option maxRecDepth 100000 in
theorem kd131_0 : (((qcode 131).drop 0).take 40).all (okD (qb 131)) = true := by decide +kernel
set_option maxRecDepth 100000 in
theorem kd131_1 : (((qcode 131).drop 40).take 40).all (okD (qb 131)) = true := by decide +kernel
set_option maxRecDepth 100000 in
theorem kd131_2 : (((qcode 131).drop 80).take 40).all (okD (qb 131)) = true := by decide +kernel
set_option maxRecDepth 100000 in
theorem kd132_0 : (((qcode 132).drop 0).take 40).all (okD (qb 132)) = true := by decide +kernel
set_option maxRecDepth 100000 in
theorem kd133_0 : (((qcode 133).drop 0).take 40).all (okD (qb 133)) = true := by decide +kernel
set_option maxRecDepth 100000 in
theorem kd134_0 : (((qcode 134).drop 0).take 40).all (okD (qb 134)) = true := by decide +kernel
set_option maxRecDepth 100000 in
theorem kd135_0 : (((qcode 135).drop 0).take 40).all (okD (qb 135)) = true := by decide +kernel
set_option maxRecDepth 100000 in
theorem kd136_0 : (((qcode 136).drop 0).take 40).all (okD (qb 136)) = true := by decide +kernel
set_option maxRecDepth 100000 in
theorem kd137_0 : (((qcode 137).drop 0).take 40).all (okD (qb 137)) = true := by decide +kernel
set_option maxRecDepth 100000 in
theorem kd138_0 : (((qcode 138).drop 0).take 40).all (okD (qb 138)) = true := by decide +kernel
set_option maxRecDepth 100000 in
theorem kd139_0 : (((qcode 139).drop 0).take 40).all (okD (qb 139)) = true := by decide +kernel
set_option maxRecDepth 100000 in
theorem kd140_0 : (((qcode 140).drop 0).take 40).all (okD (qb 140)) = true := by decide +kernel
set_option maxRecDepth 100000 in
theorem kd140_1 : (((qcode 140).drop 40).take 40).all (okD (qb 140)) = true := by decide +kernel
set_option maxRecDepth 100000 in
theorem kd141_0 : (((qcode 141).drop 0).take 40).all (okD (qb 141)) = true := by decide +kernel
set_option maxRecDepth 100000 in
theorem kd142_0 : (((qcode 142).drop 0).take 40).all (okD (qb 142)) = true := by decide +kernel
set_option maxRecDepth 100000 in
theorem kd143_0 : (((qcode 143).drop 0).take 40).all (okD (qb 143)) = true := by decide +kernel
set_option maxRecDepth 100000 in
theorem kd144_0 : (((qcode 144).drop 0).take 40).all (okD (qb 144)) = true := by decide +kernel
set_option maxRecDepth 100000 in
theorem kd144_1 : (((qcode 144).drop 40).take 40).all (okD (qb 144)) = true := by decide +kernel
set_option maxRecDepth 100000 in
theorem kd145_0 : (((qcode 145).drop 0).take 40).all (okD (qb 145)) = true := by decide +kernel
set_option maxRecDepth 100000 in
theorem kd146_0 : (((qcode 146).drop 0).take 40).all (okD (qb 146)) = true := by decide +kernel
set_option maxRecDepth 100000 in
theorem kd147_0 : (((qcode 147).drop 0).take 40).all (okD (qb 147)) = true := by decide +kernel
set_option maxRecDepth 100000 in
theorem kd148_0 : (((qcode 148).drop 0).take 40).all (okD (qb 148)) = true := by decide +kernel
set_option maxRecDepth 100000 in
theorem kd149_0 : (((qcode 149).drop 0).take 40).all (okD (qb 149)) = true := by decide +kernel
set_option maxRecDepth 100000 in
theorem kd150_0 : (((qcode 150).drop 0).take 40).all (okD (qb 150)) = true := by decide +kernel
set_option maxRecDepth 100000 in
theorem kd150_1 : (((qcode 150).drop 40).take 40).all (okD (qb 150)) = true := by decide +kernel
set_option maxRecDepth 100000 in
theorem kd151_0 : (((qcode 151).drop 0).take 40).all (okD (qb 151)) = true := by decide +kernel
set_option maxRecDepth 100000 in
theorem kd152_0 : (((qcode 152).drop 0).take 40).all (okD (qb 152)) = true := by decide +kernel
set_option maxRecDepth 100000 in
theorem kd153_0 : (((qcode 153).drop 0).take 40).all (okD (qb 153)) = true := by decide +kernel
set_option maxRecDepth 100000 in
theorem kd154_0 : (((qcode 154).drop 0).take 40).all (okD (qb 154)) = true := by decide +kernel
set_option maxRecDepth 100000 in
theorem kd155_0 : (((qcode 155).drop 0).take 40).all (okD (qb 155)) = true := by decide +kernel
set_option maxRecDepth 100000 in
theorem kd156_0 : (((qcode 156).drop 0).take 40).all (okD (qb 156)) = true := by decide +kernel
set_option maxRecDepth 100000 in
theorem kd157_0 : (((qcode 157).drop 0).take 40).all (okD (qb 157)) = true := by decide +kernel
set_option maxRecDepth 100000 in
theorem kd158_0 : (((qcode 158).drop 0).take 40).all (okD (qb 158)) = true := by decide +kernel
set_option maxRecDepth 100000 in
theorem kd159_0 : (((qcode 159).drop 0).take 40).all (okD (qb 159)) = true := by decide +kernel
set_option maxRecDepth 100000 in
theorem kd160_0 : (((qcode 160).drop 0).take 40).all (okD (qb 160)) = true := by decide +kernel
set_option maxRecDepth 100000 in
theorem kd161_0 : (((qcode 161).drop 0).take 40).all (okD (qb 161)) = true := by decide +kernel
set_option maxRecDepth 100000 in
theorem kd162_0 : (((qcode 162).drop 0).take 40).all (okD (qb 162)) = true := by decide +kernel
set_option maxRecDepth 100000 in
theorem kd163_0 : (((qcode 163).drop 0).take 40).all (okD (qb 163)) = true := by decide +kernel
set_option maxRecDepth 100000 in
theorem kd164_0 : (((qcode 164).drop 0).take 40).all (okD (qb 164)) = true := by decide +kernel
set_option maxRecDepth 100000 in
theorem kd165_0 : (((qcode 165).drop 0).take 40).all (okD (qb 165)) = true := by decide +kernel
set_option maxRecDepth 100000 in
theorem kd165_1 : (((qcode 165).drop 40).take 40).all (okD (qb 165)) = true := by decide +kernel
set_option maxRecDepth 100000 in
theorem kd166_0 : (((qcode 166).drop 0).take 40).all (okD (qb 166)) = true := by decide +kernel
set_option maxRecDepth 100000 in
theorem kd167_0 : (((qcode 167).drop 0).take 40).all (okD (qb 167)) = true := by decide +kernel
set_option maxRecDepth 100000 in
theorem kd168_0 : (((qcode 168).drop 0).take 40).all (okD (qb 168)) = true := by decide +kernel
set_option maxRecDepth 100000 in
theorem kd169_0 : (((qcode 169).drop 0).take 40).all (okD (qb 169)) = true := by decide +kernel
set_option maxRecDepth 100000 in
theorem kd170_0 : (((qcode 170).drop 0).take 40).all (okD (qb 170)) = true := by decide +kernel
set_option maxRecDepth 100000 in
theorem kd171_0 : (((qcode 171).drop 0).take 40).all (okD (qb 171)) = true := by decide +kernel
set_option maxRecDepth 100000 in
theorem kd172_0 : (((qcode 172).drop 0).take 40).all (okD (qb 172)) = true := by decide +kernel
set_option maxRecDepth 100000 in
theorem kd173_0 : (((qcode 173).drop 0).take 40).all (okD (qb 173)) = true := by decide +kernel
set_option maxRecDepth 100000 in
theorem kd174_0 : (((qcode 174).drop 0).take 40).all (okD (qb 174)) = true := by decide +kernel
set_option maxRecDepth 100000 in
theorem kd175_0 : (((qcode 175).drop 0).take 40).all (okD (qb 175)) = true := by decide +kernel
set_option maxRecDepth 100000 in
theorem kd176_0 : (((qcode 176).drop 0).take 40).all (okD (qb 176)) = true := by decide +kernel
set_option maxRecDepth 100000 in
theorem kd177_0 : (((qcode 177).drop 0).take 40).all (okD (qb 177)) = true := by decide +kernel
set_option maxRecDepth 100000 in
theorem kd178_0 : (((qcode 178).drop 0).take 40).all (okD (qb 178)) = true := by decide +kernel
set_option maxRecDepth 100000 in
theorem kd178_1 : (((qcode 178).drop 40).take 40).all (okD (qb 178)) = true := by decide +kernel
set_option maxRecDepth 100000 in
theorem kd179_0 : (((qcode 179).drop 0).take 40).all (okD (qb 179)) = true := by decide +kernel
set_option maxRecDepth 100000 in
theorem kd179_1 : (((qcode 179).drop 40).take 40).all (okD (qb 179)) = true := by decide +kernel
set_option maxRecDepth 100000 in
theorem kd180_0 : (((qcode 180).drop 0).take 40).all (okD (qb 180)) = true := by decide +kernel
set_option maxRecDepth 100000 in
theorem kd181_0 : (((qcode 181).drop 0).take 40).all (okD (qb 181)) = true := by decide +kernel
set_option maxRecDepth 100000 in
theorem kd182_0 : (((qcode 182).drop 0).take 40).all (okD (qb 182)) = true := by decide +kernel
set_option maxRecDepth 100000 in
theorem kd182_1 : (((qcode 182).drop 40).take 40).all (okD (qb 182)) = true := by decide +kernel
set_option maxRecDepth 100000 in
theorem kd183_0 : (((qcode 183).drop 0).take 40).all (okD (qb 183)) = true := by decide +kernel
set_option maxRecDepth 100000 in
theorem kd183_1 : (((qcode 183).drop 40).take 40).all (okD (qb 183)) = true := by decide +kernel
set_option maxRecDepth 100000 in
theorem kd184_0 : (((qcode 184).drop 0).take 40).all (okD (qb 184)) = true := by decide +kernel
set_option maxRecDepth 100000 in
theorem kd184_1 : (((qcode 184).drop 40).take 40).all (okD (qb 184)) = true := by decide +kernel
set_option maxRecDepth 100000 in
theorem kd185_0 : (((qcode 185).drop 0).take 40).all (okD (qb 185)) = true := by decide +kernel
set_option maxRecDepth 100000 in
theorem kd185_1 : (((qcode 185).drop 40).take 40).all (okD (qb 185)) = true := by decide +kernel
set_option maxRecDepth 100000 in
theorem kd186_0 : (((qcode 186).drop 0).take 40).all (okD (qb 186)) = true := by decide +kernel
set_option maxRecDepth 100000 in
theorem kd186_1 : (((qcode 186).drop 40).take 40).all (okD (qb 186)) = true := by decide +kernel
set_option maxRecDepth 100000 in
theorem kd186_2 : (((qcode 186).drop 80).take 40).all (okD (qb 186)) = true := by decide +kernel
set_option maxRecDepth 100000 in
theorem kd186_3 : (((qcode 186).drop 120).take 40).all (okD (qb 186)) = true := by decide +kernel
set_option maxRecDepth 100000 in
theorem kd186_4 : (((qcode 186).drop 160).take 40).all (okD (qb 186)) = true := by decide +kernel
set_option maxRecDepth 100000 in
theorem kd186_5 : (((qcode 186).drop 200).take 40).all (okD (qb 186)) = true := by decide +kernel
set_option maxRecDepth 100000 in
theorem kd186_6 : (((qcode 186).drop 240).take 40).all (okD (qb 186)) = true := by decide +kernel
set_option maxRecDepth 100000 in
theorem kd186_7 : (((qcode 186).drop 280).take 40).all (okD (qb 186)) = true := by decide +kernel
set_option maxRecDepth 100000 in
theorem kd187_0 : (((qcode 187).drop 0).take 40).all (okD (qb 187)) = true := by decide +kernel
set_option maxRecDepth 100000 in
theorem kd188_0 : (((qcode 188).drop 0).take 40).all (okD (qb 188)) = true := by decide +kernel
set_option maxRecDepth 100000 in
theorem kd189_0 : (((qcode 189).drop 0).take 40).all (okD (qb 189)) = true := by decide +kernel
set_option maxRecDepth 100000 in
theorem kd190_0 : (((qcode 190).drop 0).take 40).all (okD (qb 190)) = true := by decide +kernel
set_option maxRecDepth 100000 in
theorem kd191_0 : (((qcode 191).drop 0).take 40).all (okD (qb 191)) = true := by decide +kernel
set_option maxRecDepth 100000 in
theorem kd192_0 : (((qcode 192).drop 0).take 40).all (okD (qb 192)) = true := by decide +kernel
set_option maxRecDepth 100000 in
theorem kd192_1 : (((qcode 192).drop 40).take 40).all (okD (qb 192)) = true := by decide +kernel
set_option maxRecDepth 100000 in
theorem kd192_2 : (((qcode 192).drop 80).take 40).all (okD (qb 192)) = true := by decide +kernel
set_option maxRecDepth 100000 in
theorem kd193_0 : (((qcode 193).drop 0).take 40).all (okD (qb 193)) = true := by decide +kernel
set_option maxRecDepth 100000 in
theorem kd194_0 : (((qcode 194).drop 0).take 40).all (okD (qb 194)) = true := by decide +kernel
set_option maxRecDepth 100000 in
theorem kd194_1 : (((qcode 194).drop 40).take 40).all (okD (qb 194)) = true := by decide +kernel
