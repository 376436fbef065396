set_option maxRecDepth 100000 in
theorem kd195_0 : (((qcode 195).drop 0).take 40).all (okD (qb 195)) = true := by decide +kernel
set_option maxRecDepth 100000 in
theorem kd195_1 : (((qcode 195).drop 40).take 40).all (okD (qb 195)) = true := by decide +kernel
set_option maxRecDepth 100000 in
theorem kd196_0 : (((qcode 196).drop 0).take 40).all (okD (qb 196)) = true := by decide +kernel
set_option maxRecDepth 100000 in
theorem kd197_0 : (((qcode 197).drop 0).take 40).all (okD (qb 197)) = true := by decide +kernel
set_option maxRecDepth 100000 in
theorem kd197_1 : (((qcode 197).drop 40).take 40).all (okD (qb 197)) = true := by decide +kernel
set_option maxRecDepth 100000 in
theorem kd198_0 : (((qcode 198).drop 0).take 40).all (okD (qb 198)) = true := by decide +kernel
set_option maxRecDepth 100000 in
theorem kd198_1 : (((qcode 198).drop 40).take 40).all (okD (qb 198)) = true := by decide +kernel
set_option maxRecDepth 100000 in
theorem kd199_0 : (((qcode 199).drop 0).take 40).all (okD (qb 199)) = true := by decide +kernel
set_option maxRecDepth 100000 in
theorem kd200_0 : (((qcode 200).drop 0).take 40).all (okD (qb 200)) = true := by decide +kernel
set_option maxRecDepth 100000 in
theorem kd201_0 : (((qcode 201).drop 0).take 40).all (okD (qb 201)) = true := by decide +kernel
set_option maxRecDepth 100000 in
theorem kd201_1 : (((qcode 201).drop 40).take 40).all (okD (qb 201)) = true := by decide +kernel
set_option maxRecDepth 100000 in
theorem kd201_2 : (((qcode 201).drop 80).take 40).all (okD (qb 201)) = true := by decide +kernel
set_option maxRecDepth 100000 in
theorem kd201_3 : (((qcode 201).drop 120).take 40).all (okD (qb 201)) = true := by decide +kernel
set_option maxRecDepth 100000 in
theorem kd202_0 : (((qcode 202).drop 0).take 40).all (okD (qb 202)) = true := by decide +kernel
set_option maxRecDepth 100000 in
theorem kd202_1 : (((qcode 202).drop 40).take 40).all (okD (qb 202)) = true := by decide +kernel
set_option maxRecDepth 100000 in
theorem kd203_0 : (((qcode 203).drop 0).take 40).all (okD (qb 203)) = true := by decide +kernel
set_option maxRecDepth 100000 in
theorem kd203_1 : (((qcode 203).drop 40).take 40).all (okD (qb 203)) = true := by decide +kernel
set_option maxRecDepth 100000 in
theorem kd204_0 : (((qcode 204).drop 0).take 40).all (okD (qb 204)) = true := by decide +kernel
set_option maxRecDepth 100000 in
theorem kd205_0 : (((qcode 205).drop 0).take 40).all (okD (qb 205)) = true := by decide +kernel
set_option maxRecDepth 100000 in
theorem kd206_0 : (((qcode 206).drop 0).take 40).all (okD (qb 206)) = true := by decide +kernel
set_option maxRecDepth 100000 in
theorem kd207_0 : (((qcode 207).drop 0).take 40).all (okD (qb 207)) = true := by decide +kernel
set_option maxRecDepth 100000 in
theorem kd207_1 : (((qcode 207).drop 40).take 40).all (okD (qb 207)) = true := by decide +kernel
set_option maxRecDepth 100000 in
theorem kd208_0 : (((qcode 208).drop 0).take 40).all (okD (qb 208)) = true := by decide +kernel
set_option maxRecDepth 100000 in
theorem kd208_1 : (((qcode 208).drop 40).take 40).all (okD (qb 208)) = true := by decide +kernel
set_option maxRecDepth 100000 in
theorem kd208_2 : (((qcode 208).drop 80).take 40).all (okD (qb 208)) = true := by decide +kernel
set_option maxRecDepth 100000 in
theorem kd209_0 : (((qcode 209).drop 0).take 40).all (okD (qb 209)) = true := by decide +kernel
set_option maxRecDepth 100000 in
theorem kd210_0 : (((qcode 210).drop 0).take 40).all (okD (qb 210)) = true := by decide +kernel
set_option maxRecDepth 100000 in
theorem kd211_0 : (((qcode 211).drop 0).take 40).all (okD (qb 211)) = true := by decide +kernel
set_option maxRecDepth 100000 in
theorem kd211_1 : (((qcode 211).drop 40).take 40).all (okD (qb 211)) = true := by decide +kernel
set_option maxRecDepth 100000 in
theorem kd211_2 : (((qcode 211).drop 80).take 40).all (okD (qb 211)) = true := by decide +kernel
set_option maxRecDepth 100000 in
theorem kd212_0 : (((qcode 212).drop 0).take 40).all (okD (qb 212)) = true := by decide +kernel
set_option maxRecDepth 100000 in
theorem kd213_0 : (((qcode 213).drop 0).take 40).all (okD (qb 213)) = true := by decide +kernel
set_option maxRecDepth 100000 in
theorem kd214_0 : (((qcode 214).drop 0).take 40).all (okD (qb 214)) = true := by decide +kernel
set_option maxRecDepth 100000 in
theorem kd214_1 : (((qcode 214).drop 40).take 40).all (okD (qb 214)) = true := by decide +kernel
set_option maxRecDepth 100000 in
theorem kd215_0 : (((qcode 215).drop 0).take 40).all (okD (qb 215)) = true := by decide +kernel
set_option maxRecDepth 100000 in
theorem kd216_0 : (((qcode 216).drop 0).take 40).all (okD (qb 216)) = true := by decide +kernel
set_option maxRecDepth 100000 in
theorem kd216_1 : (((qcode 216).drop 40).take 40).all (okD (qb 216)) = true := by decide +kernel
set_option maxRecDepth 100000 in
theorem kd217_0 : (((qcode 217).drop 0).take 40).all (okD (qb 217)) = true := by decide +kernel
set_option maxRecDepth 100000 in
theorem kd218_0 : (((qcode 218).drop 0).take 40).all (okD (qb 218)) = true := by decide +kernel
set_option maxRecDepth 100000 in
theorem kd219_0 : (((qcode 219).drop 0).take 40).all (okD (qb 219)) = true := by decide +kernel
set_option maxRecDepth 100000 in
theorem kd219_1 : (((qcode 219).drop 40).take 40).all (okD (qb 219)) = true := by decide +kernel
set_option maxRecDepth 100000 in
theorem kd219_2 : (((qcode 219).drop 80).take 40).all (okD (qb 219)) = true := by decide +kernel
set_option maxRecDepth 100000 in
theorem kd220_0 : (((qcode 220).drop 0).take 40).all (okD (qb 220)) = true := by decide +kernel
set_option maxRecDepth 100000 in
theorem kd221_0 : (((qcode 221).drop 0).take 40).all (okD (qb 221)) = true := by decide +kernel
set_option maxRecDepth 100000 in
theorem kd222_0 : (((qcode 222).drop 0).take 40).all (okD (qb 222)) = true := by decide +kernel
set_option maxRecDepth 100000 in
theorem kd223_0 : (((qcode 223).drop 0).take 40).all (okD (qb 223)) = true := by decide +kernel
set_option maxRecDepth 100000 in
theorem kd224_0 : (((qcode 224).drop 0).take 40).all (okD (qb 224)) = true := by decide +kernel
set_option maxRecDepth 100000 in
theorem kd225_0 : (((qcode 225).drop 0).take 40).all (okD (qb 225)) = true := by decide +kernel
set_option maxRecDepth 100000 in
theorem kd226_0 : (((qcode 226).drop 0).take 40).all (okD (qb 226)) = true := by decide +kernel
set_option maxRecDepth 100000 in
theorem kd227_0 : (((qcode 227).drop 0).take 40).all (okD (qb 227)) = true := by decide +kernel
set_option maxRecDepth 100000 in
theorem kd228_0 : (((qcode 228).drop 0).take 40).all (okD (qb 228)) = true := by decide +kernel
set_option maxRecDepth 100000 in
theorem kd229_0 : (((qcode 229).drop 0).take 40).all (okD (qb 229)) = true := by decide +kernel
set_option maxRecDepth 100000 in
theorem kd229_1 : (((qcode 229).drop 40).take 40).all (okD (qb 229)) = true := by decide +kernel
set_option maxRecDepth 100000 in
theorem kd230_0 : (((qcode 230).drop 0).take 40).all (okD (qb 230)) = true := by decide +kernel
set_option maxRecDepth 100000 in
theorem kd231_0 : (((qcode 231).drop 0).take 40).all (okD (qb 231)) = true := by decide +kernel
set_option maxRecDepth 100000 in
theorem kd232_0 : (((qcode 232).drop 0).take 40).all (okD (qb 232)) = true := by decide +kernel
set_option maxRecDepth 100000 in
theorem kd233_0 : (((qcode 233).drop 0).take 40).all (okD (qb 233)) = true := by decide +kernel
set_option maxRecDepth 100000 in
theorem kd233_1 : (((qcode 233).drop 40).take 40).all (okD (qb 233)) = true := by decide +kernel
set_option maxRecDepth 100000 in
theorem kd234_0 : (((qcode 234).drop 0).take 40).all (okD (qb 234)) = true := by decide +kernel
set_option maxRecDepth 100000 in
theorem kd234_1 : (((qcode 234).drop 40).take 40).all (okD (qb 234)) = true := by decide +kernel
set_option maxRecDepth 100000 in
theorem kd234_2 : (((qcode 234).drop 80).take 40).all (okD (qb 234)) = true := by decide +kernel
set_option maxRecDepth 100000 in
theorem kd235_0 : (((qcode 235).drop 0).take 40).all (okD (qb 235)) = true := by decide +kernel
set_option maxRecDepth 100000 in
theorem kd236_0 : (((qcode 236).drop 0).take 40).all (okD (qb 236)) = true := by decide +kernel
set_option maxRecDepth 100000 in
theorem kd236_1 : (((qcode 236).drop 40).take 40).all (okD (qb 236)) = true := by decide +kernel
set_option maxRecDepth 100000 in
theorem kd236_2 : (((qcode 236).drop 80).take 40).all (okD (qb 236)) = true := by decide +kernel
set_option maxRecDepth 100000 in
theorem kd237_0 : (((qcode 237).drop 0).take 40).all (okD (qb 237)) = true := by decide +kernel
set_option maxRecDepth 100000 in
theorem kd238_0 : (((qcode 238).drop 0).take 40).all (okD (qb 238)) = true := by decide +kernel
set_option maxRecDepth 100000 in
theorem kd239_0 : (((qcode 239).drop 0).take 40).all (okD (qb 239)) = true := by decide +kernel
set_option maxRecDepth 100000 in
theorem kd239_1 : (((qcode 239).drop 40).take 40).all (okD (qb 239)) = true := by decide +kernel
set_option maxRecDepth 100000 in
theorem kd240_0 : (((qcode 240).drop 0).take 40).all (okD (qb 240)) = true := by decide +kernel
set_option maxRecDepth 100000 in
theorem kd240_1 : (((qcode 240).drop 40).take 40).all (okD (qb 240)) = true := by decide +kernel
set_option maxRecDepth 100000 in
theorem kd240_2 : (((qcode 240).drop 80).take 40).all (okD (qb 240)) = true := by decide +kernel
set_option maxRecDepth 100000 in
theorem kd241_0 : (((qcode 241).drop 0).take 40).all (okD (qb 241)) = true := by decide +kernel
set_option maxRecDepth 100000 in
theorem kd242_0 : (((qcode 242).drop 0).take 40).all (okD (qb 242)) = true := by decide +kernel
set_option maxRecDepth 100000 in
theorem kd243_0 : (((qcode 243).drop 0).take 40).all (okD (qb 243)) = true := by decide +kernel
set_option maxRecDepth 100000 in
theorem kd244_0 : (((qcode 244).drop 0).take 40).all (okD (qb 244)) = true := by decide +kernel
set_option maxRecDepth 100000 in
theorem kd245_0 : (((qcode 245).drop 0).take 40).all (okD (qb 245)) = true := by decide +kernel
set_option maxRecDepth 100000 in
theorem kd246_0 : (((qcode 246).drop 0).take 40).all (okD (qb 246)) = true := by decide +kernel
set_option maxRecDepth 100000 in
theorem kd247_0 : (((qcode 247).drop 0).take 40).all (okD (qb 247)) = true := by decide +kernel
set_option maxRecDepth 100000 in
theorem kd248_0 : (((qcode 248).drop 0).take 40).all (okD (qb 248)) = true := by decide +kernel
set_option maxRecDepth 100000 in
theorem kd249_0 : (((qcode 249).drop 0).take 40).all (okD (qb 249)) = true := by decide +kernel
set_option maxRecDepth 100000 in
theorem kd250_0 : (((qcode 250).drop 0).take 40).all (okD (qb 250)) = true := by decide +kernel
set_option maxRecDepth 100000 in
theorem kd251_0 : (((qcode 251).drop 0).take 40).all (okD (qb 251)) = true := by decide +kernel
set_option maxRecDepth 100000 in
theorem kd251_1 : (((qcode 251).drop 40).take 40).all (okD (qb 251)) = true := by decide +kernel
set_option maxRecDepth 100000 in
theorem kd252_0 : (((qcode 252).drop 0).take 40).all (okD (qb 252)) = true := by decide +kernel
set_option maxRecDepth 100000 in
theorem kd253_0 : (((qcode 253).drop 0).take 40).all (okD (qb 253)) = true := by decide +kernel
set_option maxRecDepth 100000 in
theorem kd254_0 : (((qcode 254).drop 0).take 40).all (okD (qb 254)) = true := by decide +kernel
set_option maxRecDepth 100000 in
theorem kd255_0 : (((qcode 255).drop 0).take 40).all (okD (qb 255)) = true := by decide +kernel
set_option maxRecDepth 100000 in
theorem kd256_0 : (((qcode 256).drop 0).take 40).all (okD (qb 256)) = true := by decide +kernel
set_option maxRecDepth 100000 in
theorem kd257_0 : (((qcode 257).drop 0).take 40).all (okD (qb 257)) = true := by decide +kernel
set_option maxRecDepth 100000 in
theorem kd258_0 : (((qcode 258).drop 0).take 40).all (okD (qb 258)) = true := by decide +kernel
set_option maxRecDepth 100000 in
theorem kd259_0 : (((qcode 259).drop 0).take 40).all (okD (qb 259)) = true := by decide +kernel
set_option maxRecDepth 100000 in
theorem kd259_1 : (((qcode 259).drop 40).take 40).all (okD (qb 259)) = true := by decide +kernel
set_option maxRecDepth 100000 in
theorem kd259_2 : (((qcode 259).drop 80).take 40).all (okD (qb 259)) = true := by decide +kernel
set_option maxRecDepth 100000 in
theorem kd260_0 : (((qcode 260).drop 0).take 40).all (okD (qb 260)) = true := by decide +kernel
set_option maxRecDepth 100000 in
theorem kd260_1 : (((qcode 260).drop 40).take 40).all (okD (qb 260)) = true := by decide +kernel
set_option maxRecDepth 100000 in
theorem kd261_0 : (((qcode 261).drop 0).take 40).all (okD (qb 261)) = true := by decide +kernel
set_option maxRecDepth 100000 in
theorem kd261_1 : (((qcode 261).drop 40).take 40).all (okD (qb 261)) = true := by decide +kernel
set_option maxRecDepth 100000 in
theorem kd262_0 : (((qcode 262).drop 0).take 40).all (okD (qb 262)) = true := by decide +kernel
set_option maxRecDepth 100000 in
theorem kd262_1 : (((qcode 262).drop 40).take 40).all (okD (qb 262)) = true := by decide +kernel
set_option maxRecDepth 100000 in
theorem kd262_2 : (((qcode 262).drop 80).take 40).all (okD (qb 262)) = true := by decide +kernel
set_option maxRecDepth 100000 in
theorem kd262_3 : (((qcode 262).drop 120).take 40).all (okD (qb 262)) = true := by decide +kernel
set_option maxRecDepth 100000 in
theorem kd263_0 : (((qcode 263).drop 0).take 40).all (okD (qb 263)) = true := by decide +kernel
set_option maxRecDepth 100000 in
theorem kd264_0 : (((qcode 264).drop 0).take 40).all (okD (qb 264)) = true := by decide +kernel
set_option maxRecDepth 100000 in
theorem kd264_1 : (((qcode 264).drop 40).take 40).all (okD (qb 264)) = true := by decide +kernel
set_option maxRecDepth 100000 in
theorem kd264_2 : (((qcode 264).drop 80).take 40).all (okD (qb 264)) = true := by decide +kernel
set_option maxRecDepth 100000 in
theorem kd265_0 : (((qcode 265).drop 0).take 40).all (okD (qb 265)) = true := by decide +kernel
set_option maxRecDepth 100000 in
theorem kd265_1 : (((qcode 265).drop 40).take 40).all (okD (qb 265)) = true := by decide +kernel
set_option maxRecDepth 100000 in
theorem kd265_2 : (((qcode 265).drop 80).take 40).all (okD (qb 265)) = true := by decide +kernel
set_option maxRecDepth 100000 in
theorem kd265_3 : (((qcode 265).drop 120).take 40).all (okD (qb 265)) = true := by decide +kernel
set_option maxRecDepth 100000 in
theorem kd266_0 : (((qcode 266).drop 0).take 40).all (okD (qb 266)) = true := by decide +kernel
set_option maxRecDepth 100000 in
theorem kd266_1 : (((qcode 266).drop 40).take 40).all (okD (qb 266)) = true := by decide +kernel
set_option maxRecDepth 100000 in
theorem kd266_2 : (((qcode 266).drop 80).take 40).all (okD (qb 266)) = true := by decide +kernel
set_option maxRecDepth 100000 in
theorem kd267_0 : (((qcode 267).drop 0).take 40).all (okD (qb 267)) = true := by decide +kernel
set_option maxRecDepth 100000 in
theorem kd267_1 : (((qcode 267).drop 40).take 40).all (okD (qb 267)) = true := by decide +kernel
set_option maxRecDepth 100000 in
theorem kd267_2 : (((qcode 267).drop 80).take 40).all (okD (qb 267)) = true := by decide +kernel
set_option maxRecDepth 100000 in
theorem kd268_0 : (((qcode 268).drop 0).take 40).all (okD (qb 268)) = true := by decide +kernel
set_option maxRecDepth 100000 in
theorem kd269_0 : (((qcode 269).drop 0).take 40).all (okD (qb 269)) = true := by decide +kernel
set_option maxRecDepth 100000 in
theorem kd270_0 : (((qcode 270).drop 0).take 40).all (okD (qb 270)) = true := by decide +kernel
set_option maxRecDepth 100000 in
theorem kd271_0 : (((qcode 271).drop 0).take 40).all (okD (qb 271)) = true := by decide +kernel
set_option maxRecDepth 100000 in
theorem kd272_0 : (((qcode 272).drop 0).take 40).all (okD (qb 272)) = true := by decide +kernel
set_option maxRecDepth 100000 in
theorem kd272_1 : (((qcode 272).drop 40).take 40).all (okD (qb 272)) = true := by decide +kernel
set_option maxRecDepth 100000 in
theorem kd272_2 : (((qcode 272).drop 80).take 40).all (okD (qb 272)) = true := by decide +kernel
set_option maxRecDepth 100000 in
theorem kd273_0 : (((qcode 273).drop 0).take 40).all (okD (qb 273)) = true := by decide +kernel
set_option maxRecDepth 100000 in
theorem kd273_1 : (((qcode 273).drop 40).take 40).all (okD (qb 273)) = true := by decide +kernel
set_option maxRecDepth 100000 in
theorem kd274_0 : (((qcode 274).drop 0).take 40).all (okD (qb 274)) = true := by decide +kernel
set_option maxRecDepth 100000 in
theorem kd275_0 : (((qcode 275).drop 0).take 40).all (okD (qb 275)) = true := by decide +kernel
set_option maxRecDepth 100000 in
theorem kd275_1 : (((qcode 275).drop 40).take 40).all (okD (qb 275)) = true := by decide +kernel
set_option maxRecDepth 100000 in
theorem kd276_0 : (((qcode 276).drop 0).take 40).all (okD (qb 276)) = true := by decide +kernel
set_option maxRecDepth 100000 in
theorem kd276_1 : (((qcode 276).drop 40).take 40).all (okD (qb 276)) = true := by decide +kernel
set_option maxRecDepth 100000 in
theorem kd277_0 : (((qcode 277).drop 0).take 40).all (okD (qb 277)) = true := by decide +kernel
set_option maxRecDepth 100000 in
theorem kd278_0 : (((qcode 278).drop 0).take 40).all (okD (qb 278)) = true := by decide +kernel
set_option maxRecDepth 100000 in
theorem kd279_0 : (((qcode 279).drop 0).take 40).all (okD (qb 279)) = true := by decide +kernel
set_option maxRecDepth 100000 in
theorem kd279_1 : (((qcode 279).drop 40).take 40).all (okD (qb 279)) = true := by decide +kernel
set_option maxRecDepth 100000 in
theorem kd280_0 : (((qcode 280).drop 0).take 40).all (okD (qb 280)) = true := by decide +kernel
set_option maxRecDepth 100000 in
theorem kd281_0 : (((qcode 281).drop 0).take 40).all (okD (qb 281)) = true := by decide +kernel
set_option maxRecDepth 100000 in
theorem kd281_1 : (((qcode 281).drop 40).take 40).all (okD (qb 281)) = true := by decide +kernel
set_option maxRecDepth 100000 in
theorem kd282_0 : (((qcode 282).drop 0).take 40).all (okD (qb 282)) = true := by decide +kernel
set_option maxRecDepth 100000 in
theorem kd283_0 : (((qcode 283).drop 0).take 40).all (okD (qb 283)) = true := by decide +kernel
set_option maxRecDepth 100000 in
theorem kd283_1 : (((qcode 283).drop 40).take 40).all (okD (qb 283)) = true := by decide +kernel
set_option maxRecDepth 100000 in
theorem kd284_0 : (((qcode 284).drop 0).take 40).all (okD (qb 284)) = true := by decide +kernel
set_option maxRecDepth 100000 in
theorem kd285_0 : (((qcode 285).drop 0).take 40).all (okD (qb 285)) = true := by decide +kernel
set_option maxRecDepth 100000 in
theorem kd286_0 : (((qcode 286).drop 0).take 40).all (okD (qb 286)) = true := by decide +kernel
set_option maxRecDepth 100000 in
theorem kd287_0 : (((qcode 287).drop 0).take 40).all (okD (qb 287)) = true := by decide +kernel
set_option maxRecDepth 100000 in
theorem kd288_0 : (((qcode 288).drop 0).take 40).all (okD (qb 288)) = true := by decide +kernel
set_option maxRecDepth 100000 in
theorem kd288_1 : (((qcode 288).drop 40).take 40).all (okD (qb 288)) = true := by decide +kernel
set_option maxRecDepth 100000 in
theorem kd288_2 : (((qcode 288).drop 80).take 40).all (okD (qb 288)) = true := by decide +kernel
set_option maxRecDepth 100000 in
theorem kd288_3 : (((qcode 288).drop 120).take 40).all (okD (qb 288)) = true := by decide +kernel
set_option maxRecDepth 100000 in
theorem kd289_0 : (((qcode 289).drop 0).take 40).all (okD (qb 289)) = true := by decide +kernel
set_option maxRecDepth 100000 in
theorem kd289_1 : (((qcode 289).drop 40).take 40).all (okD (qb 289)) = true := by decide +kernel
set_option maxRecDepth 100000 in
theorem kd290_0 : (((qcode 290).drop 0).take 40).all (okD (qb 290)) = true := by decide +kernel
set_option maxRecDepth 100000 in
theorem kd290_1 : (((qcode 290).drop 40).take 40).all (okD (qb 290)) = true := by decide +kernel
set_option maxRecDepth 100000 in
theorem kd291_0 : (((qcode 291).drop 0).take 40).all (okD (qb 291)) = true := by decide +kernel
set_option maxRecDepth 100000 in
theorem kd291_1 : (((qcode 291).drop 40).take 40).all (okD (qb 291)) = true := by decide +kernel
set_option maxRecDepth 100000 in
theorem kd291_2 : (((qcode 291).drop 80).take 40).all (okD (qb 291)) = true := by decide +kernel
set_option maxRecDepth 100000 in
theorem kd292_0 : (((qcode 292).drop 0).take 40).all (okD (qb 292)) = true := by decide +kernel
set_option maxRecDepth 100000 in
theorem kd292_1 : (((qcode 292).drop 40).take 40).all (okD (qb 292)) = true := by decide +kernel
set_option maxRecDepth 100000 in
theorem kd293_0 : (((qcode 293).drop 0).take 40).all (okD (qb 293)) = true := by decide +kernel
set_option maxRecDepth 100000 in
theorem kd294_0 : (((qcode 294).drop 0).take 40).all (okD (qb 294)) = true := by decide +kernel
set_option maxRecDepth 100000 in
theorem kd295_0 : (((qcode 295).drop 0).take 40).all (okD (qb 295)) = true := by decide +kernel
set_option maxRecDepth 100000 in
theorem kd296_0 : (((qcode 296).drop 0).take 40).all (okD (qb 296)) = true := by decide +kernel
set_option maxRecDepth 100000 in
theorem kd297_0 : (((qcode 297).drop 0).take 40).all (okD (qb 297)) = true := by decide +kernel
set_option maxRecDepth 100000 in
theorem kd298_0 : (((qcode 298).drop 0).take 40).all (okD (qb 298)) = true := by decide +kernel
set_option maxRecDepth 100000 in
theorem kd298_1 : (((qcode 298).drop 40).take 40).all (okD (qb 298)) = true := by decide +kernel
set_option maxRecDepth 100000 in
theorem kd299_0 : (((qcode 299).drop 0).take 40).all (okD (qb 299)) = true := by decide +kernel
set_option maxRecDepth 100000 in
theorem kd299_1 : (((qcode 299).drop 40).take 40).all (okD (qb 299)) = true := by decide +kernel
set_option maxRecDepth 100000 in
theorem kd300_0 : (((qcode 300).drop 0).take 40).all (okD (qb 300)) = true := by decide +kernel
set_option maxRecDepth 100000 in
theorem kd301_0 : (((qcode 301).drop 0).take 40).all (okD (qb 301)) = true := by decide +kernel
set_option maxRecDepth 100000 in
theorem kd302_0 : (((qcode 302).drop 0).take 40).all (okD (qb 302)) = true := by decide +kernel
set_option maxRecDepth 100000 in
theorem kd302_1 : (((qcode 302).drop 40).take 40).all (okD (qb 302)) = true := by decide +kernel
set_option maxRecDepth 100000 in
theorem kd303_0 : (((qcode 303).drop 0).take 40).all (okD (qb 303)) = true := by decide +kernel
set_option maxRecDepth 100000 in
theorem kd303_1 : (((qcode 303).drop 40).take 40).all (okD (qb 303)) = true := by decide +kernel
set_option maxRecDepth 100000 in
theorem kd303_2 : (((qcode 303).drop 80).take 40).all (okD (qb 303)) = true := by decide +kernel
set_option maxRecDepth 100000 in
theorem kd303_3 : (((qcode 303).drop 120).take 40).all (okD (qb 303)) = true := by decide +kernel
set_option maxRecDepth 100000 in
theorem kd303_4 : (((qcode 303).drop 160).take 40).all (okD (qb 303)) = true := by decide +kernel
set_option maxRecDepth 100000 in
theorem kd303_5 : (((qcode 303).drop 200).take 40).all (okD (qb 303)) = true := by decide +kernel
set_option maxRecDepth 100000 in
theorem kd303_6 : (((qcode 303).drop 240).take 40).all (okD (qb 303)) = true := by decide +kernel
set_option maxRecDepth 100000 in
theorem kd304_0 : (((qcode 304).drop 0).take 40).all (okD (qb 304)) = true := by decide +kernel
set_option maxRecDepth 100000 in
theorem kd305_0 : (((qcode 305).drop 0).take 40).all (okD (qb 305)) = true := by decide +kernel
set_option maxRecDepth 100000 in
theorem kd305_1 : (((qcode 305).drop 40).take 40).all (okD (qb 305)) = true := by decide +kernel
set_option maxRecDepth 100000 in
theorem kd305_2 : (((qcode 305).drop 80).take 40).all (okD (qb 305)) = true := by decide +kernel
set_option maxRecDepth 100000 in
theorem kd307_0 : (((qcode 307).drop 0).take 40).all (okD (qb 307)) = true := by decide +kernel
set_option maxRecDepth 100000 in
theorem kd307_1 : (((qcode 307).drop 40).take 40).all (okD (qb 307)) = true := by decide +kernel
set_option maxRecDepth 100000 in
theorem kd308_0 : (((qcode 308).drop 0).take 40).all (okD (qb 308)) = true := by decide +kernel
set_option maxRecDepth 100000 in
theorem kd309_0 : (((qcode 309).drop 0).take 40).all (okD (qb 309)) = true := by decide +kernel
set_option maxRecDepth 100000 in
theorem kd310_0 : (((qcode 310).drop 0).take 40).all (okD (qb 310)) = true := by decide +kernel
set_option maxRecDepth 100000 in
theorem kd311_0 : (((qcode 311).drop 0).take 40).all (okD (qb 311)) = true := by decide +kernel
