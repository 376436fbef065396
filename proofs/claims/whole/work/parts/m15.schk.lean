/-! what a call wants of its callee: checks -/
def okC (q : QE) : Bool := match q with
  | (_, .invokevirtual _, a, b, x) => !(x == 0) || decide (mK.getD a (0, 9) = (b, 0))
  | (_, .invokestatic _, a, b, x) => !(x == 1 || x == 2) || (decide (mK.getD a (0, 9) = (b, 1)) && decide (qo a ≠ 15))
  | (_, .invokespecial _, a, b, x) => !(x == 3 || x == 4) || decide (mK.getD a (0, 9) = (b, 2))
  | _ => true
set_option maxRecDepth 100000 in
theorem ck_Cc : (List.range 312).all (fun k => (qcode k).all okC) = true := by decide +kernel
/-- of a method: its words, by its kind -/
def okM (k : Nat) : Bool :=
  decide ((parseMethodDescriptor (qy k).desc).map (fun d => d.parameters.length) = some (mK.getD k (0, 9)).1) && (plainName (qy k).cls || qo k == 15) && decide ((qy k).cls ≠ "java/lang/invoke/MethodHandle") && decide ((qy k).cls ≠ "java/lang/invoke/VarHandle") && decide (qml k ≤ 40) &&
  (match (mK.getD k (0, 9)).2 with
    | 0 => decide (lw_tbl[(mP.getD k (0, 0, 0)).2.1]? = some (Cond.instanceMethod (qy k))) && decide (lw_tbl[(mP.getD k (0, 0, 0)).2.2]? = some (Cond.selects (qy k).cls (qy k) (qy k))) && decide ((qy k).cls = cN (qo k))
    | 1 => decide (lw_tbl[(mP.getD k (0, 0, 0)).2.1]? = some (Cond.static (qy k)))
    | 2 => decide (lw_tbl[(mP.getD k (0, 0, 0)).2.1]? = some (Cond.instanceMethod (qy k)))
    | _ => true)
def okP (k : Nat) : Prop := lw_tbl[(mP.getD k (0, 0, 0)).1]? = some (Cond.code (qy k) (qb k) (qml k) (qr k))
def okJ (o : Nat) : Bool := decide (lw_tbl[lkJ.getD o 0]? = some (Cond.initialized (oN o)))
theorem ck_J : (List.range 17).all okJ = true := by decide +kernel
set_option maxRecDepth 100000 in
theorem ck_M0 : ((List.range 312).drop 0 |>.take 40).all okM = true := by decide +kernel
set_option maxRecDepth 100000 in
theorem ck_M1 : ((List.range 312).drop 40 |>.take 40).all okM = true := by decide +kernel
set_option maxRecDepth 100000 in
theorem ck_M2 : ((List.range 312).drop 80 |>.take 40).all okM = true := by decide +kernel
set_option maxRecDepth 100000 in
theorem ck_M3 : ((List.range 312).drop 120 |>.take 40).all okM = true := by decide +kernel
set_option maxRecDepth 100000 in
theorem ck_M4 : ((List.range 312).drop 160 |>.take 40).all okM = true := by decide +kernel
set_option maxRecDepth 100000 in
theorem ck_M5 : ((List.range 312).drop 200 |>.take 40).all okM = true := by decide +kernel
set_option maxRecDepth 100000 in
theorem ck_M6 : ((List.range 312).drop 240 |>.take 40).all okM = true := by decide +kernel
set_option maxRecDepth 100000 in
theorem ck_M7 : ((List.range 312).drop 280 |>.take 40).all okM = true := by decide +kernel
theorem ck_Mm : (List.range 312).all okM = true := all40 8 _ (by rw [List.length_range]; decide) (fun j hj => match j, hj with
  | 0, _ => ck_M0
  | 1, _ => ck_M1
  | 2, _ => ck_M2
  | 3, _ => ck_M3
  | 4, _ => ck_M4
  | 5, _ => ck_M5
  | 6, _ => ck_M6
  | 7, _ => ck_M7)
set_option maxRecDepth 100000 in
theorem kp0 : okP 0 := rfl
set_option maxRecDepth 100000 in
theorem kp1 : okP 1 := rfl
set_option maxRecDepth 100000 in
theorem kp2 : okP 2 := rfl
set_option maxRecDepth 100000 in
theorem kp3 : okP 3 := rfl
set_option maxRecDepth 100000 in
theorem kp4 : okP 4 := rfl
set_option maxRecDepth 100000 in
theorem kp5 : okP 5 := rfl
set_option maxRecDepth 100000 in
theorem kp6 : okP 6 := rfl
set_option maxRecDepth 100000 in
theorem kp7 : okP 7 := rfl
set_option maxRecDepth 100000 in
theorem kp8 : okP 8 := rfl
set_option maxRecDepth 100000 in
theorem kp9 : okP 9 := rfl
set_option maxRecDepth 100000 in
theorem kp10 : okP 10 := rfl
set_option maxRecDepth 100000 in
theorem kp11 : okP 11 := rfl
set_option maxRecDepth 100000 in
theorem kp12 : okP 12 := rfl
set_option maxRecDepth 100000 in
theorem kp13 : okP 13 := rfl
set_option maxRecDepth 100000 in
theorem kp14 : okP 14 := rfl
set_option maxRecDepth 100000 in
theorem kp15 : okP 15 := rfl
set_option maxRecDepth 100000 in
theorem kp16 : okP 16 := rfl
set_option maxRecDepth 100000 in
theorem kp17 : okP 17 := rfl
set_option maxRecDepth 100000 in
theorem kp18 : okP 18 := rfl
set_option maxRecDepth 100000 in
theorem kp19 : okP 19 := rfl
set_option maxRecDepth 100000 in
theorem kp20 : okP 20 := rfl
set_option maxRecDepth 100000 in
theorem kp21 : okP 21 := rfl
set_option maxRecDepth 100000 in
theorem kp22 : okP 22 := rfl
set_option maxRecDepth 100000 in
theorem kp23 : okP 23 := rfl
set_option maxRecDepth 100000 in
theorem kp24 : okP 24 := rfl
set_option maxRecDepth 100000 in
theorem kp25 : okP 25 := rfl
set_option maxRecDepth 100000 in
theorem kp26 : okP 26 := rfl
set_option maxRecDepth 100000 in
theorem kp27 : okP 27 := rfl
set_option maxRecDepth 100000 in
theorem kp28 : okP 28 := rfl
set_option maxRecDepth 100000 in
theorem kp29 : okP 29 := rfl
set_option maxRecDepth 100000 in
theorem kp30 : okP 30 := rfl
set_option maxRecDepth 100000 in
theorem kp31 : okP 31 := rfl
set_option maxRecDepth 100000 in
theorem kp32 : okP 32 := rfl
set_option maxRecDepth 100000 in
theorem kp33 : okP 33 := rfl
set_option maxRecDepth 100000 in
theorem kp34 : okP 34 := rfl
set_option maxRecDepth 100000 in
theorem kp35 : okP 35 := rfl
set_option maxRecDepth 100000 in
theorem kp36 : okP 36 := rfl
set_option maxRecDepth 100000 in
theorem kp37 : okP 37 := rfl
set_option maxRecDepth 100000 in
theorem kp38 : okP 38 := rfl
set_option maxRecDepth 100000 in
theorem kp39 : okP 39 := rfl
set_option maxRecDepth 100000 in
theorem kp40 : okP 40 := rfl
set_option maxRecDepth 100000 in
theorem kp41 : okP 41 := rfl
set_option maxRecDepth 100000 in
theorem kp42 : okP 42 := rfl
set_option maxRecDepth 100000 in
theorem kp43 : okP 43 := rfl
set_option maxRecDepth 100000 in
theorem kp44 : okP 44 := rfl
set_option maxRecDepth 100000 in
theorem kp45 : okP 45 := rfl
set_option maxRecDepth 100000 in
theorem kp46 : okP 46 := rfl
set_option maxRecDepth 100000 in
theorem kp47 : okP 47 := rfl
set_option maxRecDepth 100000 in
theorem kp48 : okP 48 := rfl
set_option maxRecDepth 100000 in
theorem kp49 : okP 49 := rfl
set_option maxRecDepth 100000 in
theorem kp50 : okP 50 := rfl
set_option maxRecDepth 100000 in
theorem kp51 : okP 51 := rfl
set_option maxRecDepth 100000 in
theorem kp52 : okP 52 := rfl
set_option maxRecDepth 100000 in
theorem kp53 : okP 53 := rfl
set_option maxRecDepth 100000 in
theorem kp54 : okP 54 := rfl
set_option maxRecDepth 100000 in
theorem kp55 : okP 55 := rfl
set_option maxRecDepth 100000 in
theorem kp56 : okP 56 := rfl
set_option maxRecDepth 100000 in
theorem kp57 : okP 57 := rfl
set_option maxRecDepth 100000 in
theorem kp58 : okP 58 := rfl
set_option maxRecDepth 100000 in
theorem kp59 : okP 59 := rfl
set_option maxRecDepth 100000 in
theorem kp60 : okP 60 := rfl
set_option maxRecDepth 100000 in
theorem kp61 : okP 61 := rfl
set_option maxRecDepth 100000 in
theorem kp62 : okP 62 := rfl
set_option maxRecDepth 100000 in
theorem kp63 : okP 63 := rfl
set_option maxRecDepth 100000 in
theorem kp64 : okP 64 := rfl
set_option maxRecDepth 100000 in
theorem kp65 : okP 65 := rfl
set_option maxRecDepth 100000 in
theorem kp66 : okP 66 := rfl
set_option maxRecDepth 100000 in
theorem kp67 : okP 67 := rfl
set_option maxRecDepth 100000 in
theorem kp68 : okP 68 := rfl
set_option maxRecDepth 100000 in
theorem kp69 : okP 69 := rfl
set_option maxRecDepth 100000 in
theorem kp70 : okP 70 := rfl
set_option maxRecDepth 100000 in
theorem kp71 : okP 71 := rfl
set_option maxRecDepth 100000 in
theorem kp72 : okP 72 := rfl
set_option maxRecDepth 100000 in
theorem kp73 : okP 73 := rfl
set_option maxRecDepth 100000 in
theorem kp74 : okP 74 := rfl
set_option maxRecDepth 100000 in
theorem kp75 : okP 75 := rfl
set_option maxRecDepth 100000 in
theorem kp76 : okP 76 := rfl
set_option maxRecDepth 100000 in
theorem kp77 : okP 77 := rfl
set_option maxRecDepth 100000 in
theorem kp78 : okP 78 := rfl
set_option maxRecDepth 100000 in
theorem kp79 : okP 79 := rfl
set_option maxRecDepth 100000 in
theorem kp80 : okP 80 := rfl
set_option maxRecDepth 100000 in
theorem kp81 : okP 81 := rfl
set_option maxRecDepth 100000 in
theorem kp82 : okP 82 := rfl
set_option maxRecDepth 100000 in
theorem kp83 : okP 83 := rfl
set_option maxRecDepth 100000 in
theorem kp84 : okP 84 := rfl
set_option maxRecDepth 100000 in
theorem kp85 : okP 85 := rfl
set_option maxRecDepth 100000 in
theorem kp86 : okP 86 := rfl
set_option maxRecDepth 100000 in
theorem kp87 : okP 87 := rfl
set_option maxRecDepth 100000 in
theorem kp88 : okP 88 := rfl
set_option maxRecDepth 100000 in
theorem kp89 : okP 89 := rfl
set_option maxRecDepth 100000 in
theorem kp90 : okP 90 := rfl
set_option maxRecDepth 100000 in
theorem kp91 : okP 91 := rfl
set_option maxRecDepth 100000 in
theorem kp92 : okP 92 := rfl
set_option maxRecDepth 100000 in
theorem kp93 : okP 93 := rfl
set_option maxRecDepth 100000 in
theorem kp94 : okP 94 := rfl
set_option maxRecDepth 100000 in
theorem kp95 : okP 95 := rfl
set_option maxRecDepth 100000 in
theorem kp96 : okP 96 := rfl
set_option maxRecDepth 100000 in
theorem kp97 : okP 97 := rfl
set_option maxRecDepth 100000 in
theorem kp98 : okP 98 := rfl
set_option maxRecDepth 100000 in
theorem kp99 : okP 99 := rfl
set_option maxRecDepth 100000 in
theorem kp100 : okP 100 := rfl
set_option maxRecDepth 100000 in
theorem kp101 : okP 101 := rfl
set_option maxRecDepth 100000 in
theorem kp102 : okP 102 := rfl
set_option maxRecDepth 100000 in
theorem kp103 : okP 103 := rfl
set_option maxRecDepth 100000 in
theorem kp104 : okP 104 := rfl
set_option maxRecDepth 100000 in
theorem kp105 : okP 105 := rfl
set_option maxRecDepth 100000 in
theorem kp106 : okP 106 := rfl
set_option maxRecDepth 100000 in
theorem kp107 : okP 107 := rfl
set_option maxRecDepth 100000 in
theorem kp108 : okP 108 := rfl
set_option maxRecDepth 100000 in
theorem kp109 : okP 109 := rfl
set_option maxRecDepth 100000 in
theorem kp110 : okP 110 := rfl
set_option maxRecDepth 100000 in
theorem kp111 : okP 111 := rfl
set_option maxRecDepth 100000 in
theorem kp112 : okP 112 := rfl
set_option maxRecDepth 100000 in
theorem kp113 : okP 113 := rfl
set_option maxRecDepth 100000 in
theorem kp114 : okP 114 := rfl
set_option maxRecDepth 100000 in
theorem kp115 : okP 115 := rfl
set_option maxRecDepth 100000 in
theorem kp116 : okP 116 := rfl
set_option maxRecDepth 100000 in
theorem kp117 : okP 117 := rfl
set_option maxRecDepth 100000 in
theorem kp118 : okP 118 := rfl
set_option maxRecDepth 100000 in
theorem kp119 : okP 119 := rfl
set_option maxRecDepth 100000 in
theorem kp120 : okP 120 := rfl
set_option maxRecDepth 100000 in
theorem kp121 : okP 121 := rfl
set_option maxRecDepth 100000 in
theorem kp122 : okP 122 := rfl
set_option maxRecDepth 100000 in
theorem kp123 : okP 123 := rfl
set_option maxRecDepth 100000 in
theorem kp124 : okP 124 := rfl
set_option maxRecDepth 100000 in
theorem kp125 : okP 125 := rfl
set_option maxRecDepth 100000 in
theorem kp126 : okP 126 := rfl
set_option maxRecDepth 100000 in
theorem kp127 : okP 127 := rfl
set_option maxRecDepth 100000 in
theorem kp128 : okP 128 := rfl
set_option maxRecDepth 100000 in
theorem kp129 : okP 129 := rfl
set_option maxRecDepth 100000 in
theorem kp130 : okP 130 := rfl
set_option maxRecDepth 100000 in
theorem kp131 : okP 131 := rfl
set_option maxRecDepth 100000 in
theorem kp132 : okP 132 := rfl
set_option maxRecDepth 100000 in
theorem kp133 : okP 133 := rfl
set_option maxRecDepth 100000 in
theorem kp134 : okP 134 := rfl
set_option maxRecDepth 100000 in
theorem kp135 : okP 135 := rfl
set_option maxRecDepth 100000 in
theorem kp136 : okP 136 := rfl
set_option maxRecDepth 100000 in
theorem kp137 : okP 137 := rfl
set_option maxRecDepth 100000 in
theorem kp138 : okP 138 := rfl
set_option maxRecDepth 100000 in
theorem kp139 : okP 139 := rfl
set_option maxRecDepth 100000 in
theorem kp140 : okP 140 := rfl
set_option maxRecDepth 100000 in
theorem kp141 : okP 141 := rfl
set_option maxRecDepth 100000 in
theorem kp142 : okP 142 := rfl
set_option maxRecDepth 100000 in
theorem kp143 : okP 143 := rfl
set_option maxRecDepth 100000 in
theorem kp144 : okP 144 := rfl
set_option maxRecDepth 100000 in
theorem kp145 : okP 145 := rfl
set_option maxRecDepth 100000 in
theorem kp146 : okP 146 := rfl
set_option maxRecDepth 100000 in
theorem kp147 : okP 147 := rfl
set_option maxRecDepth 100000 in
theorem kp148 : okP 148 := rfl
set_option maxRecDepth 100000 in
theorem kp149 : okP 149 := rfl
set_option maxRecDepth 100000 in
theorem kp150 : okP 150 := rfl
set_option maxRecDepth 100000 in
theorem kp151 : okP 151 := rfl
set_option maxRecDepth 100000 in
theorem kp152 : okP 152 := rfl
set_option maxRecDepth 100000 in
theorem kp153 : okP 153 := rfl
set_option maxRecDepth 100000 in
theorem kp154 : okP 154 := rfl
set_option maxRecDepth 100000 in
theorem kp155 : okP 155 := rfl
set_option maxRecDepth 100000 in
theorem kp156 : okP 156 := rfl
set_option maxRecDepth 100000 in
theorem kp157 : okP 157 := rfl
set_option maxRecDepth 100000 in
theorem kp158 : okP 158 := rfl
set_option maxRecDepth 100000 in
theorem kp159 : okP 159 := rfl
set_option maxRecDepth 100000 in
theorem kp160 : okP 160 := rfl
set_option maxRecDepth 100000 in
theorem kp161 : okP 161 := rfl
set_option maxRecDepth 100000 in
theorem kp162 : okP 162 := rfl
set_option maxRecDepth 100000 in
theorem kp163 : okP 163 := rfl
set_option maxRecDepth 100000 in
theorem kp164 : okP 164 := rfl
set_option maxRecDepth 100000 in
theorem kp165 : okP 165 := rfl
set_option maxRecDepth 100000 in
theorem kp166 : okP 166 := rfl
set_option maxRecDepth 100000 in
theorem kp167 : okP 167 := rfl
set_option maxRecDepth 100000 in
theorem kp168 : okP 168 := rfl
set_option maxRecDepth 100000 in
theorem kp169 : okP 169 := rfl
set_option maxRecDepth 100000 in
theorem kp170 : okP 170 := rfl
set_option maxRecDepth 100000 in
theorem kp171 : okP 171 := rfl
set_option maxRecDepth 100000 in
theorem kp172 : okP 172 := rfl
set_option maxRecDepth 100000 in
theorem kp173 : okP 173 := rfl
set_option maxRecDepth 100000 in
theorem kp174 : okP 174 := rfl
set_option maxRecDepth 100000 in
theorem kp175 : okP 175 := rfl
set_option maxRecDepth 100000 in
theorem kp176 : okP 176 := rfl
set_option maxRecDepth 100000 in
theorem kp177 : okP 177 := rfl
set_option maxRecDepth 100000 in
theorem kp178 : okP 178 := rfl
set_option maxRecDepth 100000 in
theorem kp179 : okP 179 := rfl
set_option maxRecDepth 100000 in
theorem kp180 : okP 180 := rfl
set_option maxRecDepth 100000 in
theorem kp181 : okP 181 := rfl
set_option maxRecDepth 100000 in
theorem kp182 : okP 182 := rfl
set_option maxRecDepth 100000 in
theorem kp183 : okP 183 := rfl
set_option maxRecDepth 100000 in
theorem kp184 : okP 184 := rfl
set_option maxRecDepth 100000 in
theorem kp185 : okP 185 := rfl
set_option maxRecDepth 100000 in
theorem kp186 : okP 186 := rfl
set_option maxRecDepth 100000 in
theorem kp187 : okP 187 := rfl
set_option maxRecDepth 100000 in
theorem kp188 : okP 188 := rfl
set_option maxRecDepth 100000 in
theorem kp189 : okP 189 := rfl
set_option maxRecDepth 100000 in
theorem kp190 : okP 190 := rfl
set_option maxRecDepth 100000 in
theorem kp191 : okP 191 := rfl
set_option maxRecDepth 100000 in
theorem kp192 : okP 192 := rfl
set_option maxRecDepth 100000 in
theorem kp193 : okP 193 := rfl
set_option maxRecDepth 100000 in
theorem kp194 : okP 194 := rfl
set_option maxRecDepth 100000 in
theorem kp195 : okP 195 := rfl
set_option maxRecDepth 100000 in
theorem kp196 : okP 196 := rfl
set_option maxRecDepth 100000 in
theorem kp197 : okP 197 := rfl
set_option maxRecDepth 100000 in
theorem kp198 : okP 198 := rfl
set_option maxRecDepth 100000 in
theorem kp199 : okP 199 := rfl
set_option maxRecDepth 100000 in
theorem kp200 : okP 200 := rfl
set_option maxRecDepth 100000 in
theorem kp201 : okP 201 := rfl
set_option maxRecDepth 100000 in
theorem kp202 : okP 202 := rfl
set_option maxRecDepth 100000 in
theorem kp203 : okP 203 := rfl
set_option maxRecDepth 100000 in
theorem kp204 : okP 204 := rfl
set_option maxRecDepth 100000 in
theorem kp205 : okP 205 := rfl
set_option maxRecDepth 100000 in
theorem kp206 : okP 206 := rfl
set_option maxRecDepth 100000 in
theorem kp207 : okP 207 := rfl
set_option maxRecDepth 100000 in
theorem kp208 : okP 208 := rfl
set_option maxRecDepth 100000 in
theorem kp209 : okP 209 := rfl
set_option maxRecDepth 100000 in
theorem kp210 : okP 210 := rfl
set_option maxRecDepth 100000 in
theorem kp211 : okP 211 := rfl
set_option maxRecDepth 100000 in
theorem kp212 : okP 212 := rfl
set_option maxRecDepth 100000 in
theorem kp213 : okP 213 := rfl
set_option maxRecDepth 100000 in
theorem kp214 : okP 214 := rfl
set_option maxRecDepth 100000 in
theorem kp215 : okP 215 := rfl
set_option maxRecDepth 100000 in
theorem kp216 : okP 216 := rfl
set_option maxRecDepth 100000 in
theorem kp217 : okP 217 := rfl
set_option maxRecDepth 100000 in
theorem kp218 : okP 218 := rfl
set_option maxRecDepth 100000 in
theorem kp219 : okP 219 := rfl
set_option maxRecDepth 100000 in
theorem kp220 : okP 220 := rfl
set_option maxRecDepth 100000 in
theorem kp221 : okP 221 := rfl
set_option maxRecDepth 100000 in
theorem kp222 : okP 222 := rfl
set_option maxRecDepth 100000 in
theorem kp223 : okP 223 := rfl
set_option maxRecDepth 100000 in
theorem kp224 : okP 224 := rfl
set_option maxRecDepth 100000 in
theorem kp225 : okP 225 := rfl
set_option maxRecDepth 100000 in
theorem kp226 : okP 226 := rfl
set_option maxRecDepth 100000 in
theorem kp227 : okP 227 := rfl
set_option maxRecDepth 100000 in
theorem kp228 : okP 228 := rfl
set_option maxRecDepth 100000 in
theorem kp229 : okP 229 := rfl
set_option maxRecDepth 100000 in
theorem kp230 : okP 230 := rfl
set_option maxRecDepth 100000 in
theorem kp231 : okP 231 := rfl
set_option maxRecDepth 100000 in
theorem kp232 : okP 232 := rfl
set_option maxRecDepth 100000 in
theorem kp233 : okP 233 := rfl
set_option maxRecDepth 100000 in
theorem kp234 : okP 234 := rfl
set_option maxRecDepth 100000 in
theorem kp235 : okP 235 := rfl
set_option maxRecDepth 100000 in
theorem kp236 : okP 236 := rfl
set_option maxRecDepth 100000 in
theorem kp237 : okP 237 := rfl
set_option maxRecDepth 100000 in
theorem kp238 : okP 238 := rfl
set_option maxRecDepth 100000 in
theorem kp239 : okP 239 := rfl
set_option maxRecDepth 100000 in
theorem kp240 : okP 240 := rfl
set_option maxRecDepth 100000 in
theorem kp241 : okP 241 := rfl
set_option maxRecDepth 100000 in
theorem kp242 : okP 242 := rfl
set_option maxRecDepth 100000 in
theorem kp243 : okP 243 := rfl
set_option maxRecDepth 100000 in
theorem kp244 : okP 244 := rfl
set_option maxRecDepth 100000 in
theorem kp245 : okP 245 := rfl
set_option maxRecDepth 100000 in
theorem kp246 : okP 246 := rfl
set_option maxRecDepth 100000 in
theorem kp247 : okP 247 := rfl
set_option maxRecDepth 100000 in
theorem kp248 : okP 248 := rfl
set_option maxRecDepth 100000 in
theorem kp249 : okP 249 := rfl
set_option maxRecDepth 100000 in
theorem kp250 : okP 250 := rfl
set_option maxRecDepth 100000 in
theorem kp251 : okP 251 := rfl
set_option maxRecDepth 100000 in
theorem kp252 : okP 252 := rfl
set_option maxRecDepth 100000 in
theorem kp253 : okP 253 := rfl
set_option maxRecDepth 100000 in
theorem kp254 : okP 254 := rfl
set_option maxRecDepth 100000 in
theorem kp255 : okP 255 := rfl
set_option maxRecDepth 100000 in
theorem kp256 : okP 256 := rfl
set_option maxRecDepth 100000 in
theorem kp257 : okP 257 := rfl
set_option maxRecDepth 100000 in
theorem kp258 : okP 258 := rfl
set_option maxRecDepth 100000 in
theorem kp259 : okP 259 := rfl
set_option maxRecDepth 100000 in
theorem kp260 : okP 260 := rfl
set_option maxRecDepth 100000 in
theorem kp261 : okP 261 := rfl
set_option maxRecDepth 100000 in
theorem kp262 : okP 262 := rfl
set_option maxRecDepth 100000 in
theorem kp263 : okP 263 := rfl
set_option maxRecDepth 100000 in
theorem kp264 : okP 264 := rfl
set_option maxRecDepth 100000 in
theorem kp265 : okP 265 := rfl
set_option maxRecDepth 100000 in
theorem kp266 : okP 266 := rfl
set_option maxRecDepth 100000 in
theorem kp267 : okP 267 := rfl
set_option maxRecDepth 100000 in
theorem kp268 : okP 268 := rfl
set_option maxRecDepth 100000 in
theorem kp269 : okP 269 := rfl
set_option maxRecDepth 100000 in
theorem kp270 : okP 270 := rfl
set_option maxRecDepth 100000 in
theorem kp271 : okP 271 := rfl
set_option maxRecDepth 100000 in
theorem kp272 : okP 272 := rfl
set_option maxRecDepth 100000 in
theorem kp273 : okP 273 := rfl
set_option maxRecDepth 100000 in
theorem kp274 : okP 274 := rfl
set_option maxRecDepth 100000 in
theorem kp275 : okP 275 := rfl
set_option maxRecDepth 100000 in
theorem kp276 : okP 276 := rfl
set_option maxRecDepth 100000 in
theorem kp277 : okP 277 := rfl
set_option maxRecDepth 100000 in
theorem kp278 : okP 278 := rfl
set_option maxRecDepth 100000 in
theorem kp279 : okP 279 := rfl
set_option maxRecDepth 100000 in
theorem kp280 : okP 280 := rfl
set_option maxRecDepth 100000 in
theorem kp281 : okP 281 := rfl
set_option maxRecDepth 100000 in
theorem kp282 : okP 282 := rfl
set_option maxRecDepth 100000 in
theorem kp283 : okP 283 := rfl
set_option maxRecDepth 100000 in
theorem kp284 : okP 284 := rfl
set_option maxRecDepth 100000 in
theorem kp285 : okP 285 := rfl
set_option maxRecDepth 100000 in
theorem kp286 : okP 286 := rfl
set_option maxRecDepth 100000 in
theorem kp287 : okP 287 := rfl
set_option maxRecDepth 100000 in
theorem kp288 : okP 288 := rfl
set_option maxRecDepth 100000 in
theorem kp289 : okP 289 := rfl
set_option maxRecDepth 100000 in
theorem kp290 : okP 290 := rfl
set_option maxRecDepth 100000 in
theorem kp291 : okP 291 := rfl
set_option maxRecDepth 100000 in
theorem kp292 : okP 292 := rfl
set_option maxRecDepth 100000 in
theorem kp293 : okP 293 := rfl
set_option maxRecDepth 100000 in
theorem kp294 : okP 294 := rfl
set_option maxRecDepth 100000 in
theorem kp295 : okP 295 := rfl
set_option maxRecDepth 100000 in
theorem kp296 : okP 296 := rfl
set_option maxRecDepth 100000 in
theorem kp297 : okP 297 := rfl
set_option maxRecDepth 100000 in
theorem kp298 : okP 298 := rfl
set_option maxRecDepth 100000 in
theorem kp299 : okP 299 := rfl
set_option maxRecDepth 100000 in
theorem kp300 : okP 300 := rfl
set_option maxRecDepth 100000 in
theorem kp301 : okP 301 := rfl
set_option maxRecDepth 100000 in
theorem kp302 : okP 302 := rfl
set_option maxRecDepth 100000 in
theorem kp303 : okP 303 := rfl
set_option maxRecDepth 100000 in
theorem kp304 : okP 304 := rfl
set_option maxRecDepth 100000 in
theorem kp305 : okP 305 := rfl
set_option maxRecDepth 100000 in
theorem kp307 : okP 307 := rfl
set_option maxRecDepth 100000 in
theorem kp308 : okP 308 := rfl
set_option maxRecDepth 100000 in
theorem kp309 : okP 309 := rfl
set_option maxRecDepth 100000 in
theorem kp310 : okP 310 := rfl
set_option maxRecDepth 100000 in
theorem kp311 : okP 311 := rfl
theorem kpS0 : ∀ k ∈ [0, 1, 2, 3, 4, 5, 6, 7, 8, 9, 10, 11, 12, 13, 14, 15], ¬ k = 306 → okP k := List.forall_mem_cons.mpr ⟨fun _ => kp0, List.forall_mem_cons.mpr ⟨fun _ => kp1, List.forall_mem_cons.mpr ⟨fun _ => kp2, List.forall_mem_cons.mpr ⟨fun _ => kp3, List.forall_mem_cons.mpr ⟨fun _ => kp4, List.forall_mem_cons.mpr ⟨fun _ => kp5, List.forall_mem_cons.mpr ⟨fun _ => kp6, List.forall_mem_cons.mpr ⟨fun _ => kp7, List.forall_mem_cons.mpr ⟨fun _ => kp8, List.forall_mem_cons.mpr ⟨fun _ => kp9, List.forall_mem_cons.mpr ⟨fun _ => kp10, List.forall_mem_cons.mpr ⟨fun _ => kp11, List.forall_mem_cons.mpr ⟨fun _ => kp12, List.forall_mem_cons.mpr ⟨fun _ => kp13, List.forall_mem_cons.mpr ⟨fun _ => kp14, List.forall_mem_cons.mpr ⟨fun _ => kp15, fun _ h => absurd h List.not_mem_nil⟩⟩⟩⟩⟩⟩⟩⟩⟩⟩⟩⟩⟩⟩⟩⟩
theorem kpS1 : ∀ k ∈ [16, 17, 18, 19, 20, 21, 22, 23, 24, 25, 26, 27, 28, 29, 30, 31], ¬ k = 306 → okP k := List.forall_mem_cons.mpr ⟨fun _ => kp16, List.forall_mem_cons.mpr ⟨fun _ => kp17, List.forall_mem_cons.mpr ⟨fun _ => kp18, List.forall_mem_cons.mpr ⟨fun _ => kp19, List.forall_mem_cons.mpr ⟨fun _ => kp20, List.forall_mem_cons.mpr ⟨fun _ => kp21, List.forall_mem_cons.mpr ⟨fun _ => kp22, List.forall_mem_cons.mpr ⟨fun _ => kp23, List.forall_mem_cons.mpr ⟨fun _ => kp24, List.forall_mem_cons.mpr ⟨fun _ => kp25, List.forall_mem_cons.mpr ⟨fun _ => kp26, List.forall_mem_cons.mpr ⟨fun _ => kp27, List.forall_mem_cons.mpr ⟨fun _ => kp28, List.forall_mem_cons.mpr ⟨fun _ => kp29, List.forall_mem_cons.mpr ⟨fun _ => kp30, List.forall_mem_cons.mpr ⟨fun _ => kp31, fun _ h => absurd h List.not_mem_nil⟩⟩⟩⟩⟩⟩⟩⟩⟩⟩⟩⟩⟩⟩⟩⟩
theorem kpS2 : ∀ k ∈ [32, 33, 34, 35, 36, 37, 38, 39, 40, 41, 42, 43, 44, 45, 46, 47], ¬ k = 306 → okP k := List.forall_mem_cons.mpr ⟨fun _ => kp32, List.forall_mem_cons.mpr ⟨fun _ => kp33, List.forall_mem_cons.mpr ⟨fun _ => kp34, List.forall_mem_cons.mpr ⟨fun _ => kp35, List.forall_mem_cons.mpr ⟨fun _ => kp36, List.forall_mem_cons.mpr ⟨fun _ => kp37, List.forall_mem_cons.mpr ⟨fun _ => kp38, List.forall_mem_cons.mpr ⟨fun _ => kp39, List.forall_mem_cons.mpr ⟨fun _ => kp40, List.forall_mem_cons.mpr ⟨fun _ => kp41, List.forall_mem_cons.mpr ⟨fun _ => kp42, List.forall_mem_cons.mpr ⟨fun _ => kp43, List.forall_mem_cons.mpr ⟨fun _ => kp44, List.forall_mem_cons.mpr ⟨fun _ => kp45, List.forall_mem_cons.mpr ⟨fun _ => kp46, List.forall_mem_cons.mpr ⟨fun _ => kp47, fun _ h => absurd h List.not_mem_nil⟩⟩⟩⟩⟩⟩⟩⟩⟩⟩⟩⟩⟩⟩⟩⟩
theorem kpS3 : ∀ k ∈ [48, 49, 50, 51, 52, 53, 54, 55, 56, 57, 58, 59, 60, 61, 62, 63], ¬ k = 306 → okP k := List.forall_mem_cons.mpr ⟨fun _ => kp48, List.forall_mem_cons.mpr ⟨fun _ => kp49, List.forall_mem_cons.mpr ⟨fun _ => kp50, List.forall_mem_cons.mpr ⟨fun _ => kp51, List.forall_mem_cons.mpr ⟨fun _ => kp52, List.forall_mem_cons.mpr ⟨fun _ => kp53, List.forall_mem_cons.mpr ⟨fun _ => kp54, List.forall_mem_cons.mpr ⟨fun _ => kp55, List.forall_mem_cons.mpr ⟨fun _ => kp56, List.forall_mem_cons.mpr ⟨fun _ => kp57, List.forall_mem_cons.mpr ⟨fun _ => kp58, List.forall_mem_cons.mpr ⟨fun _ => kp59, List.forall_mem_cons.mpr ⟨fun _ => kp60, List.forall_mem_cons.mpr ⟨fun _ => kp61, List.forall_mem_cons.mpr ⟨fun _ => kp62, List.forall_mem_cons.mpr ⟨fun _ => kp63, fun _ h => absurd h List.not_mem_nil⟩⟩⟩⟩⟩⟩⟩⟩⟩⟩⟩⟩⟩⟩⟩⟩
theorem kpS4 : ∀ k ∈ [64, 65, 66, 67, 68, 69, 70, 71, 72, 73, 74, 75, 76, 77, 78, 79], ¬ k = 306 → okP k := List.forall_mem_cons.mpr ⟨fun _ => kp64, List.forall_mem_cons.mpr ⟨fun _ => kp65, List.forall_mem_cons.mpr ⟨fun _ => kp66, List.forall_mem_cons.mpr ⟨fun _ => kp67, List.forall_mem_cons.mpr ⟨fun _ => kp68, List.forall_mem_cons.mpr ⟨fun _ => kp69, List.forall_mem_cons.mpr ⟨fun _ => kp70, List.forall_mem_cons.mpr ⟨fun _ => kp71, List.forall_mem_cons.mpr ⟨fun _ => kp72, List.forall_mem_cons.mpr ⟨fun _ => kp73, List.forall_mem_cons.mpr ⟨fun _ => kp74, List.forall_mem_cons.mpr ⟨fun _ => kp75, List.forall_mem_cons.mpr ⟨fun _ => kp76, List.forall_mem_cons.mpr ⟨fun _ => kp77, List.forall_mem_cons.mpr ⟨fun _ => kp78, List.forall_mem_cons.mpr ⟨fun _ => kp79, fun _ h => absurd h List.not_mem_nil⟩⟩⟩⟩⟩⟩⟩⟩⟩⟩⟩⟩⟩⟩⟩⟩
theorem kpS5 : ∀ k ∈ [80, 81, 82, 83, 84, 85, 86, 87, 88, 89, 90, 91, 92, 93, 94, 95], ¬ k = 306 → okP k := List.forall_mem_cons.mpr ⟨fun _ => kp80, List.forall_mem_cons.mpr ⟨fun _ => kp81, List.forall_mem_cons.mpr ⟨fun _ => kp82, List.forall_mem_cons.mpr ⟨fun _ => kp83, List.forall_mem_cons.mpr ⟨fun _ => kp84, List.forall_mem_cons.mpr ⟨fun _ => kp85, List.forall_mem_cons.mpr ⟨fun _ => kp86, List.forall_mem_cons.mpr ⟨fun _ => kp87, List.forall_mem_cons.mpr ⟨fun _ => kp88, List.forall_mem_cons.mpr ⟨fun _ => kp89, List.forall_mem_cons.mpr ⟨fun _ => kp90, List.forall_mem_cons.mpr ⟨fun _ => kp91, List.forall_mem_cons.mpr ⟨fun _ => kp92, List.forall_mem_cons.mpr ⟨fun _ => kp93, List.forall_mem_cons.mpr ⟨fun _ => kp94, List.forall_mem_cons.mpr ⟨fun _ => kp95, fun _ h => absurd h List.not_mem_nil⟩⟩⟩⟩⟩⟩⟩⟩⟩⟩⟩⟩⟩⟩⟩⟩
theorem kpS6 : ∀ k ∈ [96, 97, 98, 99, 100, 101, 102, 103, 104, 105, 106, 107, 108, 109, 110, 111], ¬ k = 306 → okP k := List.forall_mem_cons.mpr ⟨fun _ => kp96, List.forall_mem_cons.mpr ⟨fun _ => kp97, List.forall_mem_cons.mpr ⟨fun _ => kp98, List.forall_mem_cons.mpr ⟨fun _ => kp99, List.forall_mem_cons.mpr ⟨fun _ => kp100, List.forall_mem_cons.mpr ⟨fun _ => kp101, List.forall_mem_cons.mpr ⟨fun _ => kp102, List.forall_mem_cons.mpr ⟨fun _ => kp103, List.forall_mem_cons.mpr ⟨fun _ => kp104, List.forall_mem_cons.mpr ⟨fun _ => kp105, List.forall_mem_cons.mpr ⟨fun _ => kp106, List.forall_mem_cons.mpr ⟨fun _ => kp107, List.forall_mem_cons.mpr ⟨fun _ => kp108, List.forall_mem_cons.mpr ⟨fun _ => kp109, List.forall_mem_cons.mpr ⟨fun _ => kp110, List.forall_mem_cons.mpr ⟨fun _ => kp111, fun _ h => absurd h List.not_mem_nil⟩⟩⟩⟩⟩⟩⟩⟩⟩⟩⟩⟩⟩⟩⟩⟩
theorem kpS7 : ∀ k ∈ [112, 113, 114, 115, 116, 117, 118, 119, 120, 121, 122, 123, 124, 125, 126, 127], ¬ k = 306 → okP k := List.forall_mem_cons.mpr ⟨fun _ => kp112, List.forall_mem_cons.mpr ⟨fun _ => kp113, List.forall_mem_cons.mpr ⟨fun _ => kp114, List.forall_mem_cons.mpr ⟨fun _ => kp115, List.forall_mem_cons.mpr ⟨fun _ => kp116, List.forall_mem_cons.mpr ⟨fun _ => kp117, List.forall_mem_cons.mpr ⟨fun _ => kp118, List.forall_mem_cons.mpr ⟨fun _ => kp119, List.forall_mem_cons.mpr ⟨fun _ => kp120, List.forall_mem_cons.mpr ⟨fun _ => kp121, List.forall_mem_cons.mpr ⟨fun _ => kp122, List.forall_mem_cons.mpr ⟨fun _ => kp123, List.forall_mem_cons.mpr ⟨fun _ => kp124, List.forall_mem_cons.mpr ⟨fun _ => kp125, List.forall_mem_cons.mpr ⟨fun _ => kp126, List.forall_mem_cons.mpr ⟨fun _ => kp127, fun _ h => absurd h List.not_mem_nil⟩⟩⟩⟩⟩⟩⟩⟩⟩⟩⟩⟩⟩⟩⟩⟩
theorem kpS8 : ∀ k ∈ [128, 129, 130, 131, 132, 133, 134, 135, 136, 137, 138, 139, 140, 141, 142, 143], ¬ k = 306 → okP k := List.forall_mem_cons.mpr ⟨fun _ => kp128, List.forall_mem_cons.mpr ⟨fun _ => kp129, List.forall_mem_cons.mpr ⟨fun _ => kp130, List.forall_mem_cons.mpr ⟨fun _ => kp131, List.forall_mem_cons.mpr ⟨fun _ => kp132, List.forall_mem_cons.mpr ⟨fun _ => kp133, List.forall_mem_cons.mpr ⟨fun _ => kp134, List.forall_mem_cons.mpr ⟨fun _ => kp135, List.forall_mem_cons.mpr ⟨fun _ => kp136, List.forall_mem_cons.mpr ⟨fun _ => kp137, List.forall_mem_cons.mpr ⟨fun _ => kp138, List.forall_mem_cons.mpr ⟨fun _ => kp139, List.forall_mem_cons.mpr ⟨fun _ => kp140, List.forall_mem_cons.mpr ⟨fun _ => kp141, List.forall_mem_cons.mpr ⟨fun _ => kp142, List.forall_mem_cons.mpr ⟨fun _ => kp143, fun _ h => absurd h List.not_mem_nil⟩⟩⟩⟩⟩⟩⟩⟩⟩⟩⟩⟩⟩⟩⟩⟩
theorem kpS9 : ∀ k ∈ [144, 145, 146, 147, 148, 149, 150, 151, 152, 153, 154, 155, 156, 157, 158, 159], ¬ k = 306 → okP k := List.forall_mem_cons.mpr ⟨fun _ => kp144, List.forall_mem_cons.mpr ⟨fun _ => kp145, List.forall_mem_cons.mpr ⟨fun _ => kp146, List.forall_mem_cons.mpr ⟨fun _ => kp147, List.forall_mem_cons.mpr ⟨fun _ => kp148, List.forall_mem_cons.mpr ⟨fun _ => kp149, List.forall_mem_cons.mpr ⟨fun _ => kp150, List.forall_mem_cons.mpr ⟨fun _ => kp151, List.forall_mem_cons.mpr ⟨fun _ => kp152, List.forall_mem_cons.mpr ⟨fun _ => kp153, List.forall_mem_cons.mpr ⟨fun _ => kp154, List.forall_mem_cons.mpr ⟨fun _ => kp155, List.forall_mem_cons.mpr ⟨fun _ => kp156, List.forall_mem_cons.mpr ⟨fun _ => kp157, List.forall_mem_cons.mpr ⟨fun _ => kp158, List.forall_mem_cons.mpr ⟨fun _ => kp159, fun _ h => absurd h List.not_mem_nil⟩⟩⟩⟩⟩⟩⟩⟩⟩⟩⟩⟩⟩⟩⟩⟩
theorem kpS10 : ∀ k ∈ [160, 161, 162, 163, 164, 165, 166, 167, 168, 169, 170, 171, 172, 173, 174, 175], ¬ k = 306 → okP k := List.forall_mem_cons.mpr ⟨fun _ => kp160, List.forall_mem_cons.mpr ⟨fun _ => kp161, List.forall_mem_cons.mpr ⟨fun _ => kp162, List.forall_mem_cons.mpr ⟨fun _ => kp163, List.forall_mem_cons.mpr ⟨fun _ => kp164, List.forall_mem_cons.mpr ⟨fun _ => kp165, List.forall_mem_cons.mpr ⟨fun _ => kp166, List.forall_mem_cons.mpr ⟨fun _ => kp167, List.forall_mem_cons.mpr ⟨fun _ => kp168, List.forall_mem_cons.mpr ⟨fun _ => kp169, List.forall_mem_cons.mpr ⟨fun _ => kp170, List.forall_mem_cons.mpr ⟨fun _ => kp171, List.forall_mem_cons.mpr ⟨fun _ => kp172, List.forall_mem_cons.mpr ⟨fun _ => kp173, List.forall_mem_cons.mpr ⟨fun _ => kp174, List.forall_mem_cons.mpr ⟨fun _ => kp175, fun _ h => absurd h List.not_mem_nil⟩⟩⟩⟩⟩⟩⟩⟩⟩⟩⟩⟩⟩⟩⟩⟩
theorem kpS11 : ∀ k ∈ [176, 177, 178, 179, 180, 181, 182, 183, 184, 185, 186, 187, 188, 189, 190, 191], ¬ k = 306 → okP k := List.forall_mem_cons.mpr ⟨fun _ => kp176, List.forall_mem_cons.mpr ⟨fun _ => kp177, List.forall_mem_cons.mpr ⟨fun _ => kp178, List.forall_mem_cons.mpr ⟨fun _ => kp179, List.forall_mem_cons.mpr ⟨fun _ => kp180, List.forall_mem_cons.mpr ⟨fun _ => kp181, List.forall_mem_cons.mpr ⟨fun _ => kp182, List.forall_mem_cons.mpr ⟨fun _ => kp183, List.forall_mem_cons.mpr ⟨fun _ => kp184, List.forall_mem_cons.mpr ⟨fun _ => kp185, List.forall_mem_cons.mpr ⟨fun _ => kp186, List.forall_mem_cons.mpr ⟨fun _ => kp187, List.forall_mem_cons.mpr ⟨fun _ => kp188, List.forall_mem_cons.mpr ⟨fun _ => kp189, List.forall_mem_cons.mpr ⟨fun _ => kp190, List.forall_mem_cons.mpr ⟨fun _ => kp191, fun _ h => absurd h List.not_mem_nil⟩⟩⟩⟩⟩⟩⟩⟩⟩⟩⟩⟩⟩⟩⟩⟩
theorem kpS12 : ∀ k ∈ [192, 193, 194, 195, 196, 197, 198, 199, 200, 201, 202, 203, 204, 205, 206, 207], ¬ k = 306 → okP k := List.forall_mem_cons.mpr ⟨fun _ => kp192, List.forall_mem_cons.mpr ⟨fun _ => kp193, List.forall_mem_cons.mpr ⟨fun _ => kp194, List.forall_mem_cons.mpr ⟨fun _ => kp195, List.forall_mem_cons.mpr ⟨fun _ => kp196, List.forall_mem_cons.mpr ⟨fun _ => kp197, List.forall_mem_cons.mpr ⟨fun _ => kp198, List.forall_mem_cons.mpr ⟨fun _ => kp199, List.forall_mem_cons.mpr ⟨fun _ => kp200, List.forall_mem_cons.mpr ⟨fun _ => kp201, List.forall_mem_cons.mpr ⟨fun _ => kp202, List.forall_mem_cons.mpr ⟨fun _ => kp203, List.forall_mem_cons.mpr ⟨fun _ => kp204, List.forall_mem_cons.mpr ⟨fun _ => kp205, List.forall_mem_cons.mpr ⟨fun _ => kp206, List.forall_mem_cons.mpr ⟨fun _ => kp207, fun _ h => absurd h List.not_mem_nil⟩⟩⟩⟩⟩⟩⟩⟩⟩⟩⟩⟩⟩⟩⟩⟩
theorem kpS13 : ∀ k ∈ [208, 209, 210, 211, 212, 213, 214, 215, 216, 217, 218, 219, 220, 221, 222, 223], ¬ k = 306 → okP k := List.forall_mem_cons.mpr ⟨fun _ => kp208, List.forall_mem_cons.mpr ⟨fun _ => kp209, List.forall_mem_cons.mpr ⟨fun _ => kp210, List.forall_mem_cons.mpr ⟨fun _ => kp211, List.forall_mem_cons.mpr ⟨fun _ => kp212, List.forall_mem_cons.mpr ⟨fun _ => kp213, List.forall_mem_cons.mpr ⟨fun _ => kp214, List.forall_mem_cons.mpr ⟨fun _ => kp215, List.forall_mem_cons.mpr ⟨fun _ => kp216, List.forall_mem_cons.mpr ⟨fun _ => kp217, List.forall_mem_cons.mpr ⟨fun _ => kp218, List.forall_mem_cons.mpr ⟨fun _ => kp219, List.forall_mem_cons.mpr ⟨fun _ => kp220, List.forall_mem_cons.mpr ⟨fun _ => kp221, List.forall_mem_cons.mpr ⟨fun _ => kp222, List.forall_mem_cons.mpr ⟨fun _ => kp223, fun _ h => absurd h List.not_mem_nil⟩⟩⟩⟩⟩⟩⟩⟩⟩⟩⟩⟩⟩⟩⟩⟩
theorem kpS14 : ∀ k ∈ [224, 225, 226, 227, 228, 229, 230, 231, 232, 233, 234, 235, 236, 237, 238, 239], ¬ k = 306 → okP k := List.forall_mem_cons.mpr ⟨fun _ => kp224, List.forall_mem_cons.mpr ⟨fun _ => kp225, List.forall_mem_cons.mpr ⟨fun _ => kp226, List.forall_mem_cons.mpr ⟨fun _ => kp227, List.forall_mem_cons.mpr ⟨fun _ => kp228, List.forall_mem_cons.mpr ⟨fun _ => kp229, List.forall_mem_cons.mpr ⟨fun _ => kp230, List.forall_mem_cons.mpr ⟨fun _ => kp231, List.forall_mem_cons.mpr ⟨fun _ => kp232, List.forall_mem_cons.mpr ⟨fun _ => kp233, List.forall_mem_cons.mpr ⟨fun _ => kp234, List.forall_mem_cons.mpr ⟨fun _ => kp235, List.forall_mem_cons.mpr ⟨fun _ => kp236, List.forall_mem_cons.mpr ⟨fun _ => kp237, List.forall_mem_cons.mpr ⟨fun _ => kp238, List.forall_mem_cons.mpr ⟨fun _ => kp239, fun _ h => absurd h List.not_mem_nil⟩⟩⟩⟩⟩⟩⟩⟩⟩⟩⟩⟩⟩⟩⟩⟩
theorem kpS15 : ∀ k ∈ [240, 241, 242, 243, 244, 245, 246, 247, 248, 249, 250, 251, 252, 253, 254, 255], ¬ k = 306 → okP k := List.forall_mem_cons.mpr ⟨fun _ => kp240, List.forall_mem_cons.mpr ⟨fun _ => kp241, List.forall_mem_cons.mpr ⟨fun _ => kp242, List.forall_mem_cons.mpr ⟨fun _ => kp243, List.forall_mem_cons.mpr ⟨fun _ => kp244, List.forall_mem_cons.mpr ⟨fun _ => kp245, List.forall_mem_cons.mpr ⟨fun _ => kp246, List.forall_mem_cons.mpr ⟨fun _ => kp247, List.forall_mem_cons.mpr ⟨fun _ => kp248, List.forall_mem_cons.mpr ⟨fun _ => kp249, List.forall_mem_cons.mpr ⟨fun _ => kp250, List.forall_mem_cons.mpr ⟨fun _ => kp251, List.forall_mem_cons.mpr ⟨fun _ => kp252, List.forall_mem_cons.mpr ⟨fun _ => kp253, List.forall_mem_cons.mpr ⟨fun _ => kp254, List.forall_mem_cons.mpr ⟨fun _ => kp255, fun _ h => absurd h List.not_mem_nil⟩⟩⟩⟩⟩⟩⟩⟩⟩⟩⟩⟩⟩⟩⟩⟩
theorem kpS16 : ∀ k ∈ [256, 257, 258, 259, 260, 261, 262, 263, 264, 265, 266, 267, 268, 269, 270, 271], ¬ k = 306 → okP k := List.forall_mem_cons.mpr ⟨fun _ => kp256, List.forall_mem_cons.mpr ⟨fun _ => kp257, List.forall_mem_cons.mpr ⟨fun _ => kp258, List.forall_mem_cons.mpr ⟨fun _ => kp259, List.forall_mem_cons.mpr ⟨fun _ => kp260, List.forall_mem_cons.mpr ⟨fun _ => kp261, List.forall_mem_cons.mpr ⟨fun _ => kp262, List.forall_mem_cons.mpr ⟨fun _ => kp263, List.forall_mem_cons.mpr ⟨fun _ => kp264, List.forall_mem_cons.mpr ⟨fun _ => kp265, List.forall_mem_cons.mpr ⟨fun _ => kp266, List.forall_mem_cons.mpr ⟨fun _ => kp267, List.forall_mem_cons.mpr ⟨fun _ => kp268, List.forall_mem_cons.mpr ⟨fun _ => kp269, List.forall_mem_cons.mpr ⟨fun _ => kp270, List.forall_mem_cons.mpr ⟨fun _ => kp271, fun _ h => absurd h List.not_mem_nil⟩⟩⟩⟩⟩⟩⟩⟩⟩⟩⟩⟩⟩⟩⟩⟩
theorem kpS17 : ∀ k ∈ [272, 273, 274, 275, 276, 277, 278, 279, 280, 281, 282, 283, 284, 285, 286, 287], ¬ k = 306 → okP k := List.forall_mem_cons.mpr ⟨fun _ => kp272, List.forall_mem_cons.mpr ⟨fun _ => kp273, List.forall_mem_cons.mpr ⟨fun _ => kp274, List.forall_mem_cons.mpr ⟨fun _ => kp275, List.forall_mem_cons.mpr ⟨fun _ => kp276, List.forall_mem_cons.mpr ⟨fun _ => kp277, List.forall_mem_cons.mpr ⟨fun _ => kp278, List.forall_mem_cons.mpr ⟨fun _ => kp279, List.forall_mem_cons.mpr ⟨fun _ => kp280, List.forall_mem_cons.mpr ⟨fun _ => kp281, List.forall_mem_cons.mpr ⟨fun _ => kp282, List.forall_mem_cons.mpr ⟨fun _ => kp283, List.forall_mem_cons.mpr ⟨fun _ => kp284, List.forall_mem_cons.mpr ⟨fun _ => kp285, List.forall_mem_cons.mpr ⟨fun _ => kp286, List.forall_mem_cons.mpr ⟨fun _ => kp287, fun _ h => absurd h List.not_mem_nil⟩⟩⟩⟩⟩⟩⟩⟩⟩⟩⟩⟩⟩⟩⟩⟩
theorem kpS18 : ∀ k ∈ [288, 289, 290, 291, 292, 293, 294, 295, 296, 297, 298, 299, 300, 301, 302, 303], ¬ k = 306 → okP k := List.forall_mem_cons.mpr ⟨fun _ => kp288, List.forall_mem_cons.mpr ⟨fun _ => kp289, List.forall_mem_cons.mpr ⟨fun _ => kp290, List.forall_mem_cons.mpr ⟨fun _ => kp291, List.forall_mem_cons.mpr ⟨fun _ => kp292, List.forall_mem_cons.mpr ⟨fun _ => kp293, List.forall_mem_cons.mpr ⟨fun _ => kp294, List.forall_mem_cons.mpr ⟨fun _ => kp295, List.forall_mem_cons.mpr ⟨fun _ => kp296, List.forall_mem_cons.mpr ⟨fun _ => kp297, List.forall_mem_cons.mpr ⟨fun _ => kp298, List.forall_mem_cons.mpr ⟨fun _ => kp299, List.forall_mem_cons.mpr ⟨fun _ => kp300, List.forall_mem_cons.mpr ⟨fun _ => kp301, List.forall_mem_cons.mpr ⟨fun _ => kp302, List.forall_mem_cons.mpr ⟨fun _ => kp303, fun _ h => absurd h List.not_mem_nil⟩⟩⟩⟩⟩⟩⟩⟩⟩⟩⟩⟩⟩⟩⟩⟩
theorem kpS19 : ∀ k ∈ [304, 305, 306, 307, 308, 309, 310, 311], ¬ k = 306 → okP k := List.forall_mem_cons.mpr ⟨fun _ => kp304, List.forall_mem_cons.mpr ⟨fun _ => kp305, List.forall_mem_cons.mpr ⟨fun h => absurd rfl h, List.forall_mem_cons.mpr ⟨fun _ => kp307, List.forall_mem_cons.mpr ⟨fun _ => kp308, List.forall_mem_cons.mpr ⟨fun _ => kp309, List.forall_mem_cons.mpr ⟨fun _ => kp310, List.forall_mem_cons.mpr ⟨fun _ => kp311, fun _ h => absurd h List.not_mem_nil⟩⟩⟩⟩⟩⟩⟩⟩
set_option maxRecDepth 100000 in
theorem ck_P : ∀ k ∈ List.range 312, ¬ k = 306 → okP k := by
  rw [show List.range 312 = [0, 1, 2, 3, 4, 5, 6, 7, 8, 9, 10, 11, 12, 13, 14, 15] ++ ([16, 17, 18, 19, 20, 21, 22, 23, 24, 25, 26, 27, 28, 29, 30, 31] ++ ([32, 33, 34, 35, 36, 37, 38, 39, 40, 41, 42, 43, 44, 45, 46, 47] ++ ([48, 49, 50, 51, 52, 53, 54, 55, 56, 57, 58, 59, 60, 61, 62, 63] ++ ([64, 65, 66, 67, 68, 69, 70, 71, 72, 73, 74, 75, 76, 77, 78, 79] ++ ([80, 81, 82, 83, 84, 85, 86, 87, 88, 89, 90, 91, 92, 93, 94, 95] ++ ([96, 97, 98, 99, 100, 101, 102, 103, 104, 105, 106, 107, 108, 109, 110, 111] ++ ([112, 113, 114, 115, 116, 117, 118, 119, 120, 121, 122, 123, 124, 125, 126, 127] ++ ([128, 129, 130, 131, 132, 133, 134, 135, 136, 137, 138, 139, 140, 141, 142, 143] ++ ([144, 145, 146, 147, 148, 149, 150, 151, 152, 153, 154, 155, 156, 157, 158, 159] ++ ([160, 161, 162, 163, 164, 165, 166, 167, 168, 169, 170, 171, 172, 173, 174, 175] ++ ([176, 177, 178, 179, 180, 181, 182, 183, 184, 185, 186, 187, 188, 189, 190, 191] ++ ([192, 193, 194, 195, 196, 197, 198, 199, 200, 201, 202, 203, 204, 205, 206, 207] ++ ([208, 209, 210, 211, 212, 213, 214, 215, 216, 217, 218, 219, 220, 221, 222, 223] ++ ([224, 225, 226, 227, 228, 229, 230, 231, 232, 233, 234, 235, 236, 237, 238, 239] ++ ([240, 241, 242, 243, 244, 245, 246, 247, 248, 249, 250, 251, 252, 253, 254, 255] ++ ([256, 257, 258, 259, 260, 261, 262, 263, 264, 265, 266, 267, 268, 269, 270, 271] ++ ([272, 273, 274, 275, 276, 277, 278, 279, 280, 281, 282, 283, 284, 285, 286, 287] ++ ([288, 289, 290, 291, 292, 293, 294, 295, 296, 297, 298, 299, 300, 301, 302, 303] ++ ([304, 305, 306, 307, 308, 309, 310, 311]))))))))))))))))))) by decide +kernel]
  exact List.forall_mem_append.mpr ⟨kpS0, List.forall_mem_append.mpr ⟨kpS1, List.forall_mem_append.mpr ⟨kpS2, List.forall_mem_append.mpr ⟨kpS3, List.forall_mem_append.mpr ⟨kpS4, List.forall_mem_append.mpr ⟨kpS5, List.forall_mem_append.mpr ⟨kpS6, List.forall_mem_append.mpr ⟨kpS7, List.forall_mem_append.mpr ⟨kpS8, List.forall_mem_append.mpr ⟨kpS9, List.forall_mem_append.mpr ⟨kpS10, List.forall_mem_append.mpr ⟨kpS11, List.forall_mem_append.mpr ⟨kpS12, List.forall_mem_append.mpr ⟨kpS13, List.forall_mem_append.mpr ⟨kpS14, List.forall_mem_append.mpr ⟨kpS15, List.forall_mem_append.mpr ⟨kpS16, List.forall_mem_append.mpr ⟨kpS17, List.forall_mem_append.mpr ⟨kpS18, kpS19⟩⟩⟩⟩⟩⟩⟩⟩⟩⟩⟩⟩⟩⟩⟩⟩⟩⟩⟩
