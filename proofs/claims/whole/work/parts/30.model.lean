theorem rw_u_961 : Cond.fieldLink RX12 111 "WhatWasHersModel" "status" "I" ∈ zU := zm 961 (by decide +kernel) rfl
theorem rw_u_1143 : Cond.constantLong RX12 114 (-9000000000000000010) ∈ zU := zm 1143 (by decide +kernel) rfl
theorem rw_u_1133 : Cond.constantLong RX12 116 7 ∈ zU := zm 1133 (by decide +kernel) rfl
theorem rw_u_1136 : Cond.code yX12_in cX12_in 6 (some .boolean) ∈ zU := zm 1136 (by decide +kernel) rfl
theorem rw_u_78 : Cond.initialized yX12_in.cls ∈ zU := zm 78 (by decide +kernel) rfl
theorem rw_u_1134 : Cond.methodLink RX12 118 yX12_in ∈ zU := zm 1134 (by decide +kernel) rfl
theorem rw_u_1135 : Cond.static yX12_in ∈ zU := zm 1135 (by decide +kernel) rfl
theorem rw_u_960 : Cond.fieldLink RX12 107 "WhatWasHersModel" "thrown" "I" ∈ zU := zm 960 (by decide +kernel) rfl
theorem rw_u_1132 : Cond.code yX12_isRow cX12_isRow 1 (some .boolean) ∈ zU := zm 1132 (by decide +kernel) rfl
theorem rw_u_1130 : Cond.methodLink RX12 122 yX12_isRow ∈ zU := zm 1130 (by decide +kernel) rfl
theorem rw_u_1131 : Cond.static yX12_isRow ∈ zU := zm 1131 (by decide +kernel) rfl
theorem rw_u_1138 : Cond.constantLong RX12 128 (-9000000000000000001) ∈ zU := zm 1138 (by decide +kernel) rfl
theorem rw_u_1137 : Cond.constantLong RX12 126 2 ∈ zU := zm 1137 (by decide +kernel) rfl
theorem rw_u_1142 : Cond.code yX12_finding cX12_finding 2 (some .long) ∈ zU := zm 1142 (by decide +kernel) rfl
theorem rw_u_1139 : Cond.methodLink RX12 130 yX12_finding ∈ zU := zm 1139 (by decide +kernel) rfl
theorem rw_u_1141 : Cond.instanceMethod yX12_finding ∈ zU := zm 1141 (by decide +kernel) rfl
theorem rw_u_33 : Cond.selects RX12 yX12_finding yX12_finding ∈ zU := zm 33 (by decide +kernel) rfl
theorem rw_u_1160 : Cond.constantLong RX12 134 8 ∈ zU := zm 1160 (by decide +kernel) rfl
theorem rw_u_977 : Cond.fieldLink RX12 136 "WhatWasHersModel" "taped" "I" ∈ zU := zm 977 (by decide +kernel) rfl
theorem rw_u_1162 : Cond.constantLong RX12 141 255 ∈ zU := zm 1162 (by decide +kernel) rfl
theorem rw_u_1161 : Cond.constantLong RX12 139 (-9000000000000000003) ∈ zU := zm 1161 (by decide +kernel) rfl
theorem rw_u_979 : Cond.fieldLink RX12 143 "WhatWasHersModel" "length" "I" ∈ zU := zm 979 (by decide +kernel) rfl
theorem rw_u_1175 : Cond.constant RX12 146 (-1000000) ∈ zU := zm 1175 (by decide +kernel) rfl
theorem rw_u_980 : Cond.fieldLink RX12 147 "WhatWasHersModel" "cursor" "I" ∈ zU := zm 980 (by decide +kernel) rfl
theorem rw_u_1174 : Cond.code yX12_byteAt cX12_byteAt 2 (some .int) ∈ zU := zm 1174 (by decide +kernel) rfl
theorem rw_u_1171 : Cond.methodLink RX12 150 yX12_byteAt ∈ zU := zm 1171 (by decide +kernel) rfl
theorem rw_u_1173 : Cond.instanceMethod yX12_byteAt ∈ zU := zm 1173 (by decide +kernel) rfl
theorem rw_u_35 : Cond.selects RX12 yX12_byteAt yX12_byteAt ∈ zU := zm 35 (by decide +kernel) rfl
theorem rw_u_982 : Cond.fieldLink RX12 154 "WhatWasHersModel" "from" "I" ∈ zU := zm 982 (by decide +kernel) rfl
theorem rw_u_1178 : Cond.code yX12_isLetter cX12_isLetter 1 (some .boolean) ∈ zU := zm 1178 (by decide +kernel) rfl
theorem rw_u_1176 : Cond.methodLink RX12 160 yX12_isLetter ∈ zU := zm 1176 (by decide +kernel) rfl
theorem rw_u_1177 : Cond.static yX12_isLetter ∈ zU := zm 1177 (by decide +kernel) rfl
theorem rw_u_1181 : Cond.code yX12_isFigure cX12_isFigure 1 (some .boolean) ∈ zU := zm 1181 (by decide +kernel) rfl
theorem rw_u_1179 : Cond.methodLink RX12 163 yX12_isFigure ∈ zU := zm 1179 (by decide +kernel) rfl
theorem rw_u_1180 : Cond.static yX12_isFigure ∈ zU := zm 1180 (by decide +kernel) rfl
theorem rw_u_981 : Cond.fieldLink RX12 157 "WhatWasHersModel" "token" "I" ∈ zU := zm 981 (by decide +kernel) rfl
theorem rw_u_983 : Cond.fieldLink RX12 166 "WhatWasHersModel" "till" "I" ∈ zU := zm 983 (by decide +kernel) rfl
theorem rw_u_984 : Cond.fieldLink RX12 169 "WhatWasHersModel" "fault" "I" ∈ zU := zm 984 (by decide +kernel) rfl
theorem rw_u_985 : Cond.fieldLink RX12 172 "WhatWasHersModel" "faultAt" "I" ∈ zU := zm 985 (by decide +kernel) rfl
theorem rw_u_1170 : Cond.code yX12_next cX12_next 2 none ∈ zU := zm 1170 (by decide +kernel) rfl
theorem rw_u_1167 : Cond.methodLink RX12 179 yX12_next ∈ zU := zm 1167 (by decide +kernel) rfl
theorem rw_u_1169 : Cond.instanceMethod yX12_next ∈ zU := zm 1169 (by decide +kernel) rfl
theorem rw_u_34 : Cond.selects RX12 yX12_next yX12_next ∈ zU := zm 34 (by decide +kernel) rfl
theorem rw_u_1194 : Cond.code yX12_bad cX12_bad 2 none ∈ zU := zm 1194 (by decide +kernel) rfl
theorem rw_u_1191 : Cond.methodLink RX12 175 yX12_bad ∈ zU := zm 1191 (by decide +kernel) rfl
theorem rw_u_1193 : Cond.instanceMethod yX12_bad ∈ zU := zm 1193 (by decide +kernel) rfl
theorem rw_u_38 : Cond.selects RX12 yX12_bad yX12_bad ∈ zU := zm 38 (by decide +kernel) rfl
theorem rw_u_1198 : Cond.code yX12_must cX12_must 2 none ∈ zU := zm 1198 (by decide +kernel) rfl
theorem rw_u_1195 : Cond.methodLink RX12 182 yX12_must ∈ zU := zm 1195 (by decide +kernel) rfl
theorem rw_u_1197 : Cond.instanceMethod yX12_must ∈ zU := zm 1197 (by decide +kernel) rfl
theorem rw_u_39 : Cond.selects RX12 yX12_must yX12_must ∈ zU := zm 39 (by decide +kernel) rfl
theorem rw_u_1189 : Cond.code yX12_word cX12_word 4 (some .long) ∈ zU := zm 1189 (by decide +kernel) rfl
theorem rw_u_1186 : Cond.methodLink RX12 186 yX12_word ∈ zU := zm 1186 (by decide +kernel) rfl
theorem rw_u_1188 : Cond.instanceMethod yX12_word ∈ zU := zm 1188 (by decide +kernel) rfl
theorem rw_u_37 : Cond.selects RX12 yX12_word yX12_word ∈ zU := zm 37 (by decide +kernel) rfl
theorem rw_u_1190 : Cond.constantLong RX12 190 7102839 ∈ zU := zm 1190 (by decide +kernel) rfl
theorem rw_u_971 : Cond.fieldLink RX12 192 "WhatWasHersModel" "newLaws" "I" ∈ zU := zm 971 (by decide +kernel) rfl
theorem rw_u_1206 : Cond.constantLong RX12 205 1836020596 ∈ zU := zm 1206 (by decide +kernel) rfl
theorem rw_u_1200 : Cond.constantLong RX12 197 1651471464 ∈ zU := zm 1200 (by decide +kernel) rfl
theorem rw_u_1201 : Cond.constantLong RX12 199 (-1) ∈ zU := zm 1201 (by decide +kernel) rfl
theorem rw_u_1205 : Cond.code yX12_oneOf cX12_oneOf 14 (some .int) ∈ zU := zm 1205 (by decide +kernel) rfl
theorem rw_u_1202 : Cond.methodLink RX12 201 yX12_oneOf ∈ zU := zm 1202 (by decide +kernel) rfl
theorem rw_u_1204 : Cond.instanceMethod yX12_oneOf ∈ zU := zm 1204 (by decide +kernel) rfl
theorem rw_u_40 : Cond.selects RX12 yX12_oneOf yX12_oneOf ∈ zU := zm 40 (by decide +kernel) rfl
theorem rw_u_1207 : Cond.constantLong RX12 207 1937075571 ∈ zU := zm 1207 (by decide +kernel) rfl
theorem rw_u_1208 : Cond.constantLong RX12 209 482671228019 ∈ zU := zm 1208 (by decide +kernel) rfl
theorem rw_u_1209 : Cond.constantLong RX12 211 512970880104 ∈ zU := zm 1209 (by decide +kernel) rfl
theorem rw_u_1210 : Cond.constantLong RX12 213 1818588019 ∈ zU := zm 1210 (by decide +kernel) rfl
theorem rw_u_1211 : Cond.constantLong RX12 215 1836020325 ∈ zU := zm 1211 (by decide +kernel) rfl
theorem rw_u_1212 : Cond.constantLong RX12 217 495873784179 ∈ zU := zm 1212 (by decide +kernel) rfl
theorem rw_u_1213 : Cond.constantLong RX12 219 6384748 ∈ zU := zm 1213 (by decide +kernel) rfl
theorem rw_u_1217 : Cond.code yX12_numberIn cX12_numberIn 5 (some .int) ∈ zU := zm 1217 (by decide +kernel) rfl
theorem rw_u_1214 : Cond.methodLink RX12 221 yX12_numberIn ∈ zU := zm 1214 (by decide +kernel) rfl
theorem rw_u_1216 : Cond.instanceMethod yX12_numberIn ∈ zU := zm 1216 (by decide +kernel) rfl
theorem rw_u_41 : Cond.selects RX12 yX12_numberIn yX12_numberIn ∈ zU := zm 41 (by decide +kernel) rfl
theorem rw_u_1221 : Cond.code yX12_mustEnd cX12_mustEnd 1 none ∈ zU := zm 1221 (by decide +kernel) rfl
theorem rw_u_1218 : Cond.methodLink RX12 225 yX12_mustEnd ∈ zU := zm 1218 (by decide +kernel) rfl
theorem rw_u_1220 : Cond.instanceMethod yX12_mustEnd ∈ zU := zm 1220 (by decide +kernel) rfl
theorem rw_u_42 : Cond.selects RX12 yX12_mustEnd yX12_mustEnd ∈ zU := zm 42 (by decide +kernel) rfl
theorem rw_u_1199 : Cond.constantLong RX12 195 7305070 ∈ zU := zm 1199 (by decide +kernel) rfl
theorem rw_u_1230 : Cond.constantLong RX12 228 1668246885 ∈ zU := zm 1230 (by decide +kernel) rfl
theorem rw_u_1231 : Cond.constantLong RX12 230 6452601 ∈ zU := zm 1231 (by decide +kernel) rfl
theorem rw_u_1232 : Cond.constantLong RX12 232 7370100 ∈ zU := zm 1232 (by decide +kernel) rfl
theorem rw_u_1233 : Cond.constantLong RX12 234 7237495 ∈ zU := zm 1233 (by decide +kernel) rfl
theorem rw_u_1234 : Cond.constantLong RX12 236 1870095731 ∈ zU := zm 1234 (by decide +kernel) rfl
theorem rw_u_1235 : Cond.constantLong RX12 238 1818324580 ∈ zU := zm 1235 (by decide +kernel) rfl
theorem rw_u_1236 : Cond.constantLong RX12 240 418347378021 ∈ zU := zm 1236 (by decide +kernel) rfl
theorem rw_u_973 : Cond.fieldLink RX12 250 "WhatWasHersModel" "newThings" "I" ∈ zU := zm 973 (by decide +kernel) rfl
theorem rw_u_1241 : Cond.constantLong RX12 242 27710370754291828 ∈ zU := zm 1241 (by decide +kernel) rfl
theorem rw_u_1242 : Cond.constantLong RX12 244 444150998382 ∈ zU := zm 1242 (by decide +kernel) rfl
theorem rw_u_1243 : Cond.constantLong RX12 246 111469206070628 ∈ zU := zm 1243 (by decide +kernel) rfl
theorem rw_u_1244 : Cond.constantLong RX12 248 114784770090340 ∈ zU := zm 1244 (by decide +kernel) rfl
theorem rw_u_1229 : Cond.code yX12_kindOfWord cX12_kindOfWord 3 (some .int) ∈ zU := zm 1229 (by decide +kernel) rfl
theorem rw_u_1226 : Cond.methodLink RX12 253 yX12_kindOfWord ∈ zU := zm 1226 (by decide +kernel) rfl
theorem rw_u_1228 : Cond.instanceMethod yX12_kindOfWord ∈ zU := zm 1228 (by decide +kernel) rfl
theorem rw_u_44 : Cond.selects RX12 yX12_kindOfWord yX12_kindOfWord ∈ zU := zm 44 (by decide +kernel) rfl
theorem rw_u_972 : Cond.fieldLink RX12 257 "WhatWasHersModel" "newEvents" "I" ∈ zU := zm 972 (by decide +kernel) rfl
theorem rw_u_1240 : Cond.code yX12_readNumbers cX12_readNumbers 3 none ∈ zU := zm 1240 (by decide +kernel) rfl
theorem rw_u_1237 : Cond.methodLink RX12 260 yX12_readNumbers ∈ zU := zm 1237 (by decide +kernel) rfl
theorem rw_u_1239 : Cond.instanceMethod yX12_readNumbers ∈ zU := zm 1239 (by decide +kernel) rfl
theorem rw_u_45 : Cond.selects RX12 yX12_readNumbers yX12_readNumbers ∈ zU := zm 45 (by decide +kernel) rfl
theorem rw_u_1185 : Cond.code yX12_readLaw cX12_readLaw 3 none ∈ zU := zm 1185 (by decide +kernel) rfl
theorem rw_u_1182 : Cond.methodLink RX12 264 yX12_readLaw ∈ zU := zm 1182 (by decide +kernel) rfl
theorem rw_u_1184 : Cond.instanceMethod yX12_readLaw ∈ zU := zm 1184 (by decide +kernel) rfl
theorem rw_u_36 : Cond.selects RX12 yX12_readLaw yX12_readLaw ∈ zU := zm 36 (by decide +kernel) rfl
theorem rw_u_965 : Cond.fieldLink RX12 275 "WhatWasHersModel" "isThere" "Z" ∈ zU := zm 965 (by decide +kernel) rfl
theorem rw_u_966 : Cond.fieldLink RX12 279 "WhatWasHersModel" "laws" "I" ∈ zU := zm 966 (by decide +kernel) rfl
theorem rw_u_967 : Cond.fieldLink RX12 282 "WhatWasHersModel" "events" "I" ∈ zU := zm 967 (by decide +kernel) rfl
theorem rw_u_968 : Cond.fieldLink RX12 285 "WhatWasHersModel" "things" "I" ∈ zU := zm 968 (by decide +kernel) rfl
theorem rw_u_978 : Cond.fieldLink RX12 270 "WhatWasHersModel" "latest" "I" ∈ zU := zm 978 (by decide +kernel) rfl
theorem rw_u_1245 : Cond.constantLong RX12 273 (-9000000000000000100) ∈ zU := zm 1245 (by decide +kernel) rfl
theorem rw_u_1225 : Cond.code yX12_readEvent cX12_readEvent 5 none ∈ zU := zm 1225 (by decide +kernel) rfl
theorem rw_u_1222 : Cond.methodLink RX12 267 yX12_readEvent ∈ zU := zm 1222 (by decide +kernel) rfl
theorem rw_u_1224 : Cond.instanceMethod yX12_readEvent ∈ zU := zm 1224 (by decide +kernel) rfl
theorem rw_u_43 : Cond.selects RX12 yX12_readEvent yX12_readEvent ∈ zU := zm 43 (by decide +kernel) rfl
theorem rw_u_986 : Cond.fieldLink RX12 288 "WhatWasHersModel" "lawNow" "I" ∈ zU := zm 986 (by decide +kernel) rfl
theorem rw_u_1274 : Cond.code yX12_byLaw cX12_byLaw 6 (some .int) ∈ zU := zm 1274 (by decide +kernel) rfl
theorem rw_u_1271 : Cond.methodLink RX12 291 yX12_byLaw ∈ zU := zm 1271 (by decide +kernel) rfl
theorem rw_u_1273 : Cond.instanceMethod yX12_byLaw ∈ zU := zm 1273 (by decide +kernel) rfl
theorem rw_u_50 : Cond.selects RX12 yX12_byLaw yX12_byLaw ∈ zU := zm 50 (by decide +kernel) rfl
theorem rw_u_1000 : Cond.fieldLink RX12 294 "WhatWasHersModel" "puts" "I" ∈ zU := zm 1000 (by decide +kernel) rfl
theorem rw_u_988 : Cond.fieldLink RX12 297 "WhatWasHersModel" "came" "I" ∈ zU := zm 988 (by decide +kernel) rfl
theorem rw_u_1270 : Cond.code yX12_fall cX12_fall 5 none ∈ zU := zm 1270 (by decide +kernel) rfl
theorem rw_u_1267 : Cond.methodLink RX12 304 yX12_fall ∈ zU := zm 1267 (by decide +kernel) rfl
theorem rw_u_1269 : Cond.instanceMethod yX12_fall ∈ zU := zm 1269 (by decide +kernel) rfl
theorem rw_u_49 : Cond.selects RX12 yX12_fall yX12_fall ∈ zU := zm 49 (by decide +kernel) rfl
theorem rw_u_1282 : Cond.code yX12_putIn cX12_putIn 4 none ∈ zU := zm 1282 (by decide +kernel) rfl
theorem rw_u_1279 : Cond.methodLink RX12 300 yX12_putIn ∈ zU := zm 1279 (by decide +kernel) rfl
theorem rw_u_1281 : Cond.instanceMethod yX12_putIn ∈ zU := zm 1281 (by decide +kernel) rfl
theorem rw_u_52 : Cond.selects RX12 yX12_putIn yX12_putIn ∈ zU := zm 52 (by decide +kernel) rfl
theorem rw_u_1266 : Cond.code yX12_move cX12_move 4 none ∈ zU := zm 1266 (by decide +kernel) rfl
theorem rw_u_1263 : Cond.methodLink RX12 307 yX12_move ∈ zU := zm 1263 (by decide +kernel) rfl
theorem rw_u_1265 : Cond.instanceMethod yX12_move ∈ zU := zm 1265 (by decide +kernel) rfl
theorem rw_u_48 : Cond.selects RX12 yX12_move yX12_move ∈ zU := zm 48 (by decide +kernel) rfl
theorem rw_u_1286 : Cond.code yX12_bring cX12_bring 7 none ∈ zU := zm 1286 (by decide +kernel) rfl
theorem rw_u_1283 : Cond.methodLink RX12 310 yX12_bring ∈ zU := zm 1283 (by decide +kernel) rfl
theorem rw_u_1285 : Cond.instanceMethod yX12_bring ∈ zU := zm 1285 (by decide +kernel) rfl
theorem rw_u_53 : Cond.selects RX12 yX12_bring yX12_bring ∈ zU := zm 53 (by decide +kernel) rfl
theorem rw_u_1278 : Cond.code yX12_happen cX12_happen 5 none ∈ zU := zm 1278 (by decide +kernel) rfl
theorem rw_u_1275 : Cond.methodLink RX12 313 yX12_happen ∈ zU := zm 1275 (by decide +kernel) rfl
theorem rw_u_1277 : Cond.instanceMethod yX12_happen ∈ zU := zm 1277 (by decide +kernel) rfl
theorem rw_u_51 : Cond.selects RX12 yX12_happen yX12_happen ∈ zU := zm 51 (by decide +kernel) rfl
theorem rw_u_1262 : Cond.code yX12_goThrough cX12_goThrough 10 none ∈ zU := zm 1262 (by decide +kernel) rfl
theorem rw_u_1259 : Cond.methodLink RX12 316 yX12_goThrough ∈ zU := zm 1259 (by decide +kernel) rfl
theorem rw_u_1261 : Cond.instanceMethod yX12_goThrough ∈ zU := zm 1261 (by decide +kernel) rfl
theorem rw_u_47 : Cond.selects RX12 yX12_goThrough yX12_goThrough ∈ zU := zm 47 (by decide +kernel) rfl
theorem rw_u_1257 : Cond.code yX12_isThing cX12_isThing 2 (some .boolean) ∈ zU := zm 1257 (by decide +kernel) rfl
theorem rw_u_1254 : Cond.methodLink RX12 320 yX12_isThing ∈ zU := zm 1254 (by decide +kernel) rfl
theorem rw_u_1256 : Cond.instanceMethod yX12_isThing ∈ zU := zm 1256 (by decide +kernel) rfl
theorem rw_u_46 : Cond.selects RX12 yX12_isThing yX12_isThing ∈ zU := zm 46 (by decide +kernel) rfl
theorem rw_u_1258 : Cond.constantLong RX12 323 999 ∈ zU := zm 1258 (by decide +kernel) rfl
theorem rw_u_1287 : Cond.constantLong RX12 325 (-1000000) ∈ zU := zm 1287 (by decide +kernel) rfl
theorem rw_u_1292 : Cond.constantLong RX12 327 6 ∈ zU := zm 1292 (by decide +kernel) rfl
theorem rw_u_1296 : Cond.code yX12_goAll cX12_goAll 1 none ∈ zU := zm 1296 (by decide +kernel) rfl
theorem rw_u_1293 : Cond.methodLink RX12 329 yX12_goAll ∈ zU := zm 1293 (by decide +kernel) rfl
theorem rw_u_1295 : Cond.instanceMethod yX12_goAll ∈ zU := zm 1295 (by decide +kernel) rfl
theorem rw_u_54 : Cond.selects RX12 yX12_goAll yX12_goAll ∈ zU := zm 54 (by decide +kernel) rfl
theorem rw_u_1300 : Cond.code yX12_putsInto cX12_putsInto 4 (some .int) ∈ zU := zm 1300 (by decide +kernel) rfl
theorem rw_u_1297 : Cond.methodLink RX12 332 yX12_putsInto ∈ zU := zm 1297 (by decide +kernel) rfl
theorem rw_u_1299 : Cond.instanceMethod yX12_putsInto ∈ zU := zm 1299 (by decide +kernel) rfl
theorem rw_u_55 : Cond.selects RX12 yX12_putsInto yX12_putsInto ∈ zU := zm 55 (by decide +kernel) rfl
theorem rw_u_1305 : Cond.constantLong RX12 335 (-9000000000000000002) ∈ zU := zm 1305 (by decide +kernel) rfl
theorem rw_u_1313 : Cond.code yX12_isPurse cX12_isPurse 2 (some .boolean) ∈ zU := zm 1313 (by decide +kernel) rfl
theorem rw_u_1310 : Cond.methodLink RX12 337 yX12_isPurse ∈ zU := zm 1310 (by decide +kernel) rfl
theorem rw_u_1312 : Cond.instanceMethod yX12_isPurse ∈ zU := zm 1312 (by decide +kernel) rfl
theorem rw_u_56 : Cond.selects RX12 yX12_isPurse yX12_isPurse ∈ zU := zm 56 (by decide +kernel) rfl
theorem rw_u_1314 : Cond.constantLong RX12 340 3 ∈ zU := zm 1314 (by decide +kernel) rfl
theorem rw_u_1318 : Cond.code yX12_laySums cX12_laySums 7 none ∈ zU := zm 1318 (by decide +kernel) rfl
theorem rw_u_1315 : Cond.methodLink RX12 342 yX12_laySums ∈ zU := zm 1315 (by decide +kernel) rfl
theorem rw_u_1317 : Cond.instanceMethod yX12_laySums ∈ zU := zm 1317 (by decide +kernel) rfl
theorem rw_u_57 : Cond.selects RX12 yX12_laySums yX12_laySums ∈ zU := zm 57 (by decide +kernel) rfl
theorem rw_u_1342 : Cond.code yX12_minor cX12_minor 5 (some .long) ∈ zU := zm 1342 (by decide +kernel) rfl
theorem rw_u_1339 : Cond.methodLink RX12 345 yX12_minor ∈ zU := zm 1339 (by decide +kernel) rfl
theorem rw_u_1341 : Cond.instanceMethod yX12_minor ∈ zU := zm 1341 (by decide +kernel) rfl
theorem rw_u_61 : Cond.selects RX12 yX12_minor yX12_minor ∈ zU := zm 61 (by decide +kernel) rfl
theorem rw_u_1334 : Cond.code yX12_laySides cX12_laySides 3 none ∈ zU := zm 1334 (by decide +kernel) rfl
theorem rw_u_1331 : Cond.methodLink RX12 353 yX12_laySides ∈ zU := zm 1331 (by decide +kernel) rfl
theorem rw_u_1333 : Cond.instanceMethod yX12_laySides ∈ zU := zm 1333 (by decide +kernel) rfl
theorem rw_u_59 : Cond.selects RX12 yX12_laySides yX12_laySides ∈ zU := zm 59 (by decide +kernel) rfl
theorem rw_u_1338 : Cond.code yX12_determinant cX12_determinant 1 (some .long) ∈ zU := zm 1338 (by decide +kernel) rfl
theorem rw_u_1335 : Cond.methodLink RX12 356 yX12_determinant ∈ zU := zm 1335 (by decide +kernel) rfl
theorem rw_u_1337 : Cond.instanceMethod yX12_determinant ∈ zU := zm 1337 (by decide +kernel) rfl
theorem rw_u_60 : Cond.selects RX12 yX12_determinant yX12_determinant ∈ zU := zm 60 (by decide +kernel) rfl
theorem rw_u_1009 : Cond.fieldLink RX12 349 "WhatWasHersModel" "whole" "J" ∈ zU := zm 1009 (by decide +kernel) rfl
theorem rw_u_1330 : Cond.code yX12_layNets cX12_layNets 3 none ∈ zU := zm 1330 (by decide +kernel) rfl
theorem rw_u_1327 : Cond.methodLink RX12 359 yX12_layNets ∈ zU := zm 1327 (by decide +kernel) rfl
theorem rw_u_1329 : Cond.instanceMethod yX12_layNets ∈ zU := zm 1329 (by decide +kernel) rfl
theorem rw_u_58 : Cond.selects RX12 yX12_layNets yX12_layNets ∈ zU := zm 58 (by decide +kernel) rfl
theorem rw_u_1345 : Cond.code yX12_partOf cX12_partOf 11 (some .long) ∈ zU := zm 1345 (by decide +kernel) rfl
theorem rw_u_1343 : Cond.methodLink RX12 362 yX12_partOf ∈ zU := zm 1343 (by decide +kernel) rfl
theorem rw_u_1344 : Cond.static yX12_partOf ∈ zU := zm 1344 (by decide +kernel) rfl
theorem rw_u_1358 : Cond.constantLong RX12 366 100 ∈ zU := zm 1358 (by decide +kernel) rfl
theorem rw_u_1357 : Cond.code yX12_endOf cX12_endOf 4 (some .long) ∈ zU := zm 1357 (by decide +kernel) rfl
theorem rw_u_1354 : Cond.methodLink RX12 368 yX12_endOf ∈ zU := zm 1354 (by decide +kernel) rfl
theorem rw_u_1356 : Cond.instanceMethod yX12_endOf ∈ zU := zm 1356 (by decide +kernel) rfl
theorem rw_u_62 : Cond.selects RX12 yX12_endOf yX12_endOf ∈ zU := zm 62 (by decide +kernel) rfl
theorem rw_u_1371 : Cond.constantLong RX12 371 (-9999) ∈ zU := zm 1371 (by decide +kernel) rfl
theorem rw_u_1372 : Cond.constantLong RX12 373 9999 ∈ zU := zm 1372 (by decide +kernel) rfl
theorem rw_u_1376 : Cond.code yX12_isWished cX12_isWished 5 (some .boolean) ∈ zU := zm 1376 (by decide +kernel) rfl
theorem rw_u_1373 : Cond.methodLink RX12 375 yX12_isWished ∈ zU := zm 1373 (by decide +kernel) rfl
theorem rw_u_1375 : Cond.instanceMethod yX12_isWished ∈ zU := zm 1375 (by decide +kernel) rfl
theorem rw_u_63 : Cond.selects RX12 yX12_isWished yX12_isWished ∈ zU := zm 63 (by decide +kernel) rfl
theorem rw_u_1377 : Cond.constantLong RX12 379 15 ∈ zU := zm 1377 (by decide +kernel) rfl
theorem rw_u_1389 : Cond.code yX12_isFed cX12_isFed 4 (some .boolean) ∈ zU := zm 1389 (by decide +kernel) rfl
theorem rw_u_1386 : Cond.methodLink RX12 381 yX12_isFed ∈ zU := zm 1386 (by decide +kernel) rfl
theorem rw_u_1388 : Cond.instanceMethod yX12_isFed ∈ zU := zm 1388 (by decide +kernel) rfl
theorem rw_u_65 : Cond.selects RX12 yX12_isFed yX12_isFed ∈ zU := zm 65 (by decide +kernel) rfl
theorem rw_u_1398 : Cond.constantLong RX12 384 4 ∈ zU := zm 1398 (by decide +kernel) rfl
theorem rw_u_1385 : Cond.code yX12_kindOf cX12_kindOf 2 (some .int) ∈ zU := zm 1385 (by decide +kernel) rfl
theorem rw_u_1382 : Cond.methodLink RX12 386 yX12_kindOf ∈ zU := zm 1382 (by decide +kernel) rfl
theorem rw_u_1384 : Cond.instanceMethod yX12_kindOf ∈ zU := zm 1384 (by decide +kernel) rfl
theorem rw_u_64 : Cond.selects RX12 yX12_kindOf yX12_kindOf ∈ zU := zm 64 (by decide +kernel) rfl
theorem rw_u_1394 : Cond.constantLong RX12 389 5 ∈ zU := zm 1394 (by decide +kernel) rfl
theorem rw_u_1397 : Cond.code yX12_isOf cX12_isOf 2 (some .boolean) ∈ zU := zm 1397 (by decide +kernel) rfl
theorem rw_u_1395 : Cond.methodLink RX12 391 yX12_isOf ∈ zU := zm 1395 (by decide +kernel) rfl
theorem rw_u_1396 : Cond.static yX12_isOf ∈ zU := zm 1396 (by decide +kernel) rfl
theorem rw_u_1014 : Cond.fieldLink RX12 395 "WhatWasHersModel" "traced" "I" ∈ zU := zm 1014 (by decide +kernel) rfl
theorem rw_u_1414 : Cond.code yX12_began cX12_began 2 none ∈ zU := zm 1414 (by decide +kernel) rfl
theorem rw_u_1411 : Cond.methodLink RX12 398 yX12_began ∈ zU := zm 1411 (by decide +kernel) rfl
theorem rw_u_1413 : Cond.instanceMethod yX12_began ∈ zU := zm 1413 (by decide +kernel) rfl
theorem rw_u_68 : Cond.selects RX12 yX12_began yX12_began ∈ zU := zm 68 (by decide +kernel) rfl
theorem rw_u_1410 : Cond.code yX12_commonSize cX12_commonSize 2 (some .int) ∈ zU := zm 1410 (by decide +kernel) rfl
theorem rw_u_1407 : Cond.methodLink RX12 401 yX12_commonSize ∈ zU := zm 1407 (by decide +kernel) rfl
theorem rw_u_1409 : Cond.instanceMethod yX12_commonSize ∈ zU := zm 1409 (by decide +kernel) rfl
theorem rw_u_67 : Cond.selects RX12 yX12_commonSize yX12_commonSize ∈ zU := zm 67 (by decide +kernel) rfl
theorem rw_u_1418 : Cond.code yX12_markOf cX12_markOf 5 (some .int) ∈ zU := zm 1418 (by decide +kernel) rfl
theorem rw_u_1415 : Cond.methodLink RX12 404 yX12_markOf ∈ zU := zm 1415 (by decide +kernel) rfl
theorem rw_u_1417 : Cond.instanceMethod yX12_markOf ∈ zU := zm 1417 (by decide +kernel) rfl
theorem rw_u_69 : Cond.selects RX12 yX12_markOf yX12_markOf ∈ zU := zm 69 (by decide +kernel) rfl
theorem rw_u_1406 : Cond.code yX12_sizeOf cX12_sizeOf 4 (some .int) ∈ zU := zm 1406 (by decide +kernel) rfl
theorem rw_u_1403 : Cond.methodLink RX12 407 yX12_sizeOf ∈ zU := zm 1403 (by decide +kernel) rfl
theorem rw_u_1405 : Cond.instanceMethod yX12_sizeOf ∈ zU := zm 1405 (by decide +kernel) rfl
theorem rw_u_66 : Cond.selects RX12 yX12_sizeOf yX12_sizeOf ∈ zU := zm 66 (by decide +kernel) rfl
/-! WhatWasHersModel.in(JJJ)Z -/
abbrev rmX12_in : Room := { frames := 0, cells := 0, slots := 0, locals := 0 }
def fM_in  (a0 : Int64) (a1 : Int64) (a2 : Int64) : Option (Bool) :=
  if a0 < a1 then (some (false)) else (if a2 < a0 then (some (false)) else (some (true)))
/-! WhatWasHersModel.finding(I)J -/
abbrev rmX12_finding : Room := { frames := 0, cells := 0, slots := 0, locals := 0 }
def fM_finding (sM : zSt) (a0 : Int32) : Option (Int64 × zSt) :=
  zn (zsI sM 1 a0) fun sM1 => some (((-9000000000000000010) - (a0.toInt64)), sM1)
/-! WhatWasHersModel.isRow(I)Z -/
abbrev rmX12_isRow : Room := { frames := 1, cells := 0, slots := 0, locals := 25 }
def fM_isRow  (a0 : Int32) : Option (Bool) :=
  Option.bind (fM_in (a0.toInt64) 0 7) fun y1 => some (y1)
/-! WhatWasHersModel.row(III)J -/
abbrev rmX12_row : Room := { frames := 2, cells := 0, slots := 0, locals := 45 }
def fM_row_l66b (K66 : zSt → Int32 → Int32 → Int32 → Option (Int64 × zSt)) (sM : zSt) (x1 : Int32) (x3 : Int32) (x4 : Int32) : Option (Int64 × zSt) :=
  if 40 ≤ x4 then (some ((x3.toInt64), sM)) else (zg (zix ((40 * x1) + x4) 320) <| zn (zsA sM 4 ((40 * x1) + x4).toNatClampNeg 0) fun sM7 => zn (x4 + 1 : Int32) fun x4_8 => K66 sM7 x1 x3 x4_8)
def fM_row_l66  : Nat → zSt → Int32 → Int32 → Int32 → Option (Int64 × zSt)
  | 0, _, _, _, _ => none
  | n + 1, v0, v1, v2, v3 => fM_row_l66b  (fun v0 v1 v2 v3 => fM_row_l66  n v0 v1 v2 v3) v0 v1 v2 v3
def fM_row (sM : zSt) (a0 : Int32) (a1 : Int32) (a2 : Int32) : Option (Int64 × zSt) :=
  zn (zsI sM 0 0) fun sM1 => Option.bind (fM_isRow a0) fun y2 => if y2 = true then (Option.bind (fM_in (a1.toInt64) 0 2) fun y3 => if y3 = true then (if a2 ≤ 40 then (zn (zsI sM1 1 0) fun sM4 => if 0 ≤ a2 then (zg (zix a0 8) <| zn (zsA sM4 2 a0.toNatClampNeg a1) fun sM5 => zg (zix a0 8) <| zn (zsA sM5 3 a0.toNatClampNeg a2) fun sM6 => fM_row_l66  zF sM6 a0 a2 0) else (Option.bind (fM_finding sM4 4) fun y9 => some (y9.1, y9.2))) else (some ((-9000000000000000001), sM1))) else (some ((-9000000000000000001), sM1))) else (some ((-9000000000000000001), sM1))
/-! WhatWasHersModel.set(III)J -/
abbrev rmX12_set : Room := { frames := 2, cells := 0, slots := 0, locals := 45 }
def fM_set_b100  (sM : zSt) (x1 : Int32) (x2 : Int32) (t0 : Int32) (t1 : Int32) : Option (Int64 × zSt) :=
  zg (zix t1 320) <| zn (zsA sM 4 t1.toNatClampNeg t0) fun sM5 => zg (zix ((40 * x1) + x2) 320) <| some (((zA sM5 4 ((40 * x1) + x2).toNatClampNeg).toInt64), sM5)
def fM_set (sM : zSt) (a0 : Int32) (a1 : Int32) (a2 : Int32) : Option (Int64 × zSt) :=
  zn (zsI sM 0 0) fun sM1 => Option.bind (fM_isRow a0) fun y2 => if y2 = true then (zn (zsI sM1 1 0) fun sM3 => zg (zix a0 8) <| if 0 ≤ (zA sM3 2 a0.toNatClampNeg) then (zg (zix a0 8) <| Option.bind (fM_in (a1.toInt64) 0 (((zA sM3 3 a0.toNatClampNeg) - 1).toInt64)) fun y4 => if y4 = true then (zg (zix a0 8) <| if (zA sM3 2 a0.toNatClampNeg) = 0 then (fM_set_b100  sM3 a0 a1 (a2.toInt8.toInt32) ((40 * a0) + a1)) else (zg (zix a0 8) <| if (zA sM3 2 a0.toNatClampNeg) = 1 then (fM_set_b100  sM3 a0 a1 (a2.toInt16.toInt32) ((40 * a0) + a1)) else (fM_set_b100  sM3 a0 a1 a2 ((40 * a0) + a1)))) else (Option.bind (fM_finding sM3 2) fun y6 => some (y6.1, y6.2))) else (Option.bind (fM_finding sM3 1) fun y7 => some (y7.1, y7.2))) else (some ((-9000000000000000001), sM1))
/-! WhatWasHersModel.copy(IIIII)J -/
abbrev rmX12_copy : Room := { frames := 2, cells := 0, slots := 0, locals := 45 }
def fM_copy_b168 (K144 : zSt → Int32 → Int32 → Int32 → Int32 → Int32 → Int32 → Int32 → Option (Int64 × zSt)) (sM : zSt) (x1 : Int32) (x2 : Int32) (x3 : Int32) (x4 : Int32) (x5 : Int32) (x6 : Int32) (x7 : Int32) (t0 : Int32) : Option (Int64 × zSt) :=
  zg (zix (((40 * x1) + x2) + t0) 320) <| zg (zix (((40 * x3) + x4) + t0) 320) <| zn (zsA sM 4 (((40 * x3) + x4) + t0).toNatClampNeg (zA sM 4 (((40 * x1) + x2) + t0).toNatClampNeg)) fun sM10 => zn (x7 + 1 : Int32) fun x7_11 => K144 sM10 x1 x2 x3 x4 x5 x6 x7_11
def fM_copy_l144b (K144 : zSt → Int32 → Int32 → Int32 → Int32 → Int32 → Int32 → Int32 → Option (Int64 × zSt)) (sM : zSt) (x1 : Int32) (x2 : Int32) (x3 : Int32) (x4 : Int32) (x5 : Int32) (x6 : Int32) (x7 : Int32) : Option (Int64 × zSt) :=
  if x5 ≤ x7 then (some ((x5.toInt64), sM)) else (if x6 = 0 then (fM_copy_b168 K144 sM x1 x2 x3 x4 x5 x6 x7 ((x5 - 1) - x7)) else (fM_copy_b168 K144 sM x1 x2 x3 x4 x5 x6 x7 x7))
def fM_copy_l144  : Nat → zSt → Int32 → Int32 → Int32 → Int32 → Int32 → Int32 → Int32 → Option (Int64 × zSt)
  | 0, _, _, _, _, _, _, _, _ => none
  | n + 1, v0, v1, v2, v3, v4, v5, v6, v7 => fM_copy_l144b  (fun v0 v1 v2 v3 v4 v5 v6 v7 => fM_copy_l144  n v0 v1 v2 v3 v4 v5 v6 v7) v0 v1 v2 v3 v4 v5 v6 v7
def fM_copy (sM : zSt) (a0 : Int32) (a1 : Int32) (a2 : Int32) (a3 : Int32) (a4 : Int32) : Option (Int64 × zSt) :=
  zn (zsI sM 0 0) fun sM1 => Option.bind (fM_isRow a0) fun y2 => if y2 = true then (Option.bind (fM_isRow a2) fun y3 => if y3 = true then (zn (zsI sM1 1 0) fun sM4 => zg (zix a0 8) <| if (zA sM4 2 a0.toNatClampNeg) < 0 then (Option.bind (fM_finding sM4 1) fun y5 => some (y5.1, y5.2)) else (zg (zix a2 8) <| if 0 ≤ (zA sM4 2 a2.toNatClampNeg) then (zg (zix a0 8) <| zg (zix a2 8) <| if (zA sM4 2 a0.toNatClampNeg) = (zA sM4 2 a2.toNatClampNeg) then (if a1 < 0 then (Option.bind (fM_finding sM4 2) fun y6 => some (y6.1, y6.2)) else (if a3 < 0 then (Option.bind (fM_finding sM4 2) fun y7 => some (y7.1, y7.2)) else (if a4 < 0 then (Option.bind (fM_finding sM4 2) fun y8 => some (y8.1, y8.2)) else (zg (zix a0 8) <| if ((zA sM4 3 a0.toNatClampNeg).toInt64) < ((a1.toInt64) + (a4.toInt64)) then (Option.bind (fM_finding sM4 2) fun y9 => some (y9.1, y9.2)) else (zg (zix a2 8) <| if ((a3.toInt64) + (a4.toInt64)) ≤ ((zA sM4 3 a2.toNatClampNeg).toInt64) then (if a1 < a3 then (fM_copy_l144  zF sM4 a0 a1 a2 a3 a4 0 0) else (fM_copy_l144  zF sM4 a0 a1 a2 a3 a4 1 0)) else (Option.bind (fM_finding sM4 2) fun y12 => some (y12.1, y12.2))))))) else (Option.bind (fM_finding sM4 5) fun y13 => some (y13.1, y13.2))) else (Option.bind (fM_finding sM4 1) fun y14 => some (y14.1, y14.2)))) else (some ((-9000000000000000001), sM1))) else (some ((-9000000000000000001), sM1))
/-! WhatWasHersModel.drop(I)J -/
abbrev rmX12_drop : Room := { frames := 2, cells := 0, slots := 0, locals := 45 }
def fM_drop (sM : zSt) (a0 : Int32) : Option (Int64 × zSt) :=
  zn (zsI sM 0 0) fun sM1 => Option.bind (fM_isRow a0) fun y2 => if y2 = true then (zn (zsI sM1 1 0) fun sM3 => zg (zix a0 8) <| if 0 ≤ (zA sM3 2 a0.toNatClampNeg) then (zg (zix a0 8) <| zn (zsA sM3 2 a0.toNatClampNeg (-1)) fun sM4 => zg (zix a0 8) <| some (((zA sM4 3 a0.toNatClampNeg).toInt64), sM4)) else (Option.bind (fM_finding sM3 1) fun y5 => some (y5.1, y5.2))) else (some ((-9000000000000000001), sM1))
/-! WhatWasHersModel.feed(JI)J -/
abbrev rmX12_feed : Room := { frames := 1, cells := 0, slots := 0, locals := 25 }
def fM_feed_l42b (K42 : zSt → Int64 → Int32 → Option (Int64 × zSt)) (sM : zSt) (x1 : Int64) (x4 : Int32) : Option (Int64 × zSt) :=
  if x4 < 0 then (some (((zI sM 17).toInt64), sM)) else (zg (zix (zI sM 17) 500) <| zn (zsA sM 16 (zI sM 17).toNatClampNeg (((x1 >>> ((8 * x4).toInt64 &&& 63)) &&& 255).toInt32)) fun sM4 => zn (zsI sM4 17 ((zI sM4 17) + 1)) fun sM5 => zn (x4 + (-1) : Int32) fun x4_6 => K42 sM5 x1 x4_6)
def fM_feed_l42  : Nat → zSt → Int64 → Int32 → Option (Int64 × zSt)
  | 0, _, _, _ => none
  | n + 1, v0, v1, v2 => fM_feed_l42b  (fun v0 v1 v2 => fM_feed_l42  n v0 v1 v2) v0 v1 v2
def fM_feed (sM : zSt) (a0 : Int64) (a1 : Int32) : Option (Int64 × zSt) :=
  zn (zsI sM 0 0) fun sM1 => Option.bind (fM_in (a1.toInt64) 1 8) fun y2 => if y2 = true then (if ((zI sM1 17) + a1) ≤ 500 then (zn ((a1 - 1) : Int32) fun x4_3 => fM_feed_l42  zF sM1 a0 x4_3) else (some ((-9000000000000000003), sM1))) else (some ((-9000000000000000001), sM1))
/-! WhatWasHersModel.byteAt(I)I -/
abbrev rmX12_byteAt : Room := { frames := 0, cells := 0, slots := 0, locals := 0 }
def fM_byteAt (sM : zSt) (a0 : Int32) : Option (Int32) :=
  if (zI sM 19) ≤ a0 then (some ((-1000000))) else (zg (zix a0 500) <| some ((zA sM 16 a0.toNatClampNeg)))
/-! WhatWasHersModel.isLetter(I)Z -/
abbrev rmX12_isLetter : Room := { frames := 0, cells := 0, slots := 0, locals := 0 }
def fM_isLetter  (a0 : Int32) : Option (Bool) :=
  if a0 < 97 then (some (false)) else (if 122 < a0 then (some (false)) else (some (true)))
/-! WhatWasHersModel.isFigure(I)Z -/
abbrev rmX12_isFigure : Room := { frames := 0, cells := 0, slots := 0, locals := 0 }
def fM_isFigure  (a0 : Int32) : Option (Bool) :=
  if a0 < 48 then (some (false)) else (if 57 < a0 then (some (false)) else (some (true)))
/-! WhatWasHersModel.next()V -/
abbrev rmX12_next : Room := { frames := 1, cells := 0, slots := 0, locals := 21 }
def fM_next_b26 (K0 : zSt → Option (zSt)) (sM : zSt)  : Option (zSt) :=
  zn (zsI sM 20 ((zI sM 20) + 1)) fun sM2 => K0 sM2
def fM_next_b196  (sM : zSt)  : Option (zSt) :=
  zn (zsI sM 23 (zI sM 20)) fun sM10 => some (sM10)
def fM_next_l119b (K119 : zSt → Option (zSt)) (sM : zSt)  : Option (zSt) :=
  Option.bind (fM_byteAt sM (zI sM 20)) fun y12 => Option.bind (fM_isFigure y12) fun y13 => if y13 = true then (zn (zsI sM 20 ((zI sM 20) + 1)) fun sM16 => K119 sM16) else (if ((zI sM 20) - (zI sM 22)) ≤ 3 then (zn (zsI sM 21 3) fun sM14 => fM_next_b196  sM14) else (zn (zsI sM 21 0) fun sM15 => fM_next_b196  sM15))
def fM_next_l119  : Nat → zSt → Option (zSt)
  | 0, _ => none
  | n + 1, v0 => fM_next_l119b  (fun v0 => fM_next_l119  n v0) v0
def fM_next_l77b (K77 : zSt → Option (zSt)) (sM : zSt)  : Option (zSt) :=
  Option.bind (fM_byteAt sM (zI sM 20)) fun y17 => Option.bind (fM_isLetter y17) fun y18 => if y18 = true then (zn (zsI sM 20 ((zI sM 20) + 1)) fun sM20 => K77 sM20) else (zn (zsI sM 21 2) fun sM19 => fM_next_b196  sM19)
def fM_next_l77  : Nat → zSt → Option (zSt)
  | 0, _ => none
  | n + 1, v0 => fM_next_l77b  (fun v0 => fM_next_l77  n v0) v0
def fM_next_l0b (K0 : zSt → Option (zSt)) (sM : zSt)  : Option (zSt) :=
  Option.bind (fM_byteAt sM (zI sM 20)) fun y1 => if y1 = 32 then (fM_next_b26 K0 sM) else (Option.bind (fM_byteAt sM (zI sM 20)) fun y3 => if y3 = 10 then (fM_next_b26 K0 sM) else (zn (zsI sM 22 (zI sM 20)) fun sM4 => Option.bind (fM_byteAt sM4 (zI sM4 20)) fun y5 => if y5 = (-1000000) then (zn (zsI sM4 21 1) fun sM21 => fM_next_b196  sM21) else (Option.bind (fM_isLetter y5) fun y6 => if y6 = true then (fM_next_l77  zF sM4) else (Option.bind (fM_isFigure y5) fun y7 => if y7 = true then (fM_next_l119  zF sM4) else (zn (zsI sM4 20 ((zI sM4 20) + 1)) fun sM8 => if y5 = 59 then (zn (zsI sM8 21 4) fun sM11 => fM_next_b196  sM11) else (zn (zsI sM8 21 0) fun sM9 => fM_next_b196  sM9))))))
def fM_next_l0  : Nat → zSt → Option (zSt)
  | 0, _ => none
  | n + 1, v0 => fM_next_l0b  (fun v0 => fM_next_l0  n v0) v0
def fM_next (sM : zSt)  : Option (zSt) :=
  fM_next_l0  zF sM
/-! WhatWasHersModel.bad(I)V -/
abbrev rmX12_bad : Room := { frames := 0, cells := 0, slots := 0, locals := 0 }
def fM_bad (sM : zSt) (a0 : Int32) : Option (zSt) :=
  if (zI sM 24) = 0 then (zn (zsI sM 24 a0) fun sM1 => zn (zsI sM1 25 (zI sM1 22)) fun sM2 => some (sM2)) else (some (sM))
/-! WhatWasHersModel.must(Z)V -/
abbrev rmX12_must : Room := { frames := 2, cells := 0, slots := 0, locals := 42 }
def fM_must_b9  (sM : zSt)  : Option (zSt) :=
  if (zI sM 24) = 0 then (Option.bind (fM_next sM) fun y1 => some (y1)) else (some (sM))
def fM_must (sM : zSt) (a0 : Int32) : Option (zSt) :=
  if a0 = 0 then (Option.bind (fM_bad sM 1) fun y2 => fM_must_b9  y2) else (fM_must_b9  sM)
/-! WhatWasHersModel.word()J -/
abbrev rmX12_word : Room := { frames := 0, cells := 0, slots := 0, locals := 0 }
def fM_word_b56  (sM : zSt) (x1 : Int64) : Option (Int64) :=
  if (zI sM 24) = 0 then (some (x1)) else (some (0))
def fM_word_l7b (K7 : zSt → Int64 → Int32 → Option (Int64)) (sM : zSt) (x1 : Int64) (x3 : Int32) : Option (Int64) :=
  if (zI sM 23) ≤ x3 then (fM_word_b56  sM x1) else (if (zI sM 21) = 2 then (if 8 ≤ ((zI sM 23) - (zI sM 22)) then (fM_word_b56  sM x1) else (zg (zix x3 500) <| zn (((x1 <<< ((8 : Int32).toInt64 &&& 63)) ||| ((zA sM 16 x3.toNatClampNeg).toInt64)) : Int64) fun x1_2 => zn (x3 + 1 : Int32) fun x3_3 => K7 sM x1_2 x3_3)) else (fM_word_b56  sM x1))
def fM_word_l7  : Nat → zSt → Int64 → Int32 → Option (Int64)
  | 0, _, _, _ => none
  | n + 1, v0, v1, v2 => fM_word_l7b  (fun v0 v1 v2 => fM_word_l7  n v0 v1 v2) v0 v1 v2
def fM_word (sM : zSt)  : Option (Int64) :=
  zn ((zI sM 22) : Int32) fun x3_1 => fM_word_l7  zF sM 0 x3_1
/-! WhatWasHersModel.numberIn(II)I -/
abbrev rmX12_numberIn : Room := { frames := 3, cells := 0, slots := 0, locals := 63 }
def fM_numberIn_b81  (sM : zSt) (x3 : Int32) : Option (Int32 × zSt) :=
  if (zI sM 21) = 3 then (Option.bind (fM_must sM 1) fun y3 => some (x3, y3)) else (Option.bind (fM_must sM 0) fun y2 => some (x3, y2))
def fM_numberIn_b56  (sM : zSt) (x1 : Int32) (x2 : Int32) (x3 : Int32) : Option (Int32 × zSt) :=
  if (zI sM 21) = 3 then (Option.bind (fM_in (x3.toInt64) (x1.toInt64) (x2.toInt64)) fun y4 => if y4 = true then (fM_numberIn_b81  sM x3) else (Option.bind (fM_bad sM 2) fun y5 => fM_numberIn_b81  y5 x3)) else (fM_numberIn_b81  sM x3)
def fM_numberIn_l17b (K17 : zSt → Int32 → Int32 → Int32 → Int32 → Option (Int32 × zSt)) (sM : zSt) (x1 : Int32) (x2 : Int32) (x3 : Int32) (x4 : Int32) : Option (Int32 × zSt) :=
  if (zI sM 23) ≤ x4 then (fM_numberIn_b56  sM x1 x2 x3) else (if (zI sM 21) = 3 then (zg (zix x4 500) <| zn ((((10 * x3) + (zA sM 16 x4.toNatClampNeg)) - 48) : Int32) fun x3_6 => zn (x4 + 1 : Int32) fun x4_7 => K17 sM x1 x2 x3_6 x4_7) else (fM_numberIn_b56  sM x1 x2 x3))
def fM_numberIn_l17  : Nat → zSt → Int32 → Int32 → Int32 → Int32 → Option (Int32 × zSt)
  | 0, _, _, _, _, _ => none
  | n + 1, v0, v1, v2, v3, v4 => fM_numberIn_l17b  (fun v0 v1 v2 v3 v4 => fM_numberIn_l17  n v0 v1 v2 v3 v4) v0 v1 v2 v3 v4
def fM_numberIn (sM : zSt) (a0 : Int32) (a1 : Int32) : Option (Int32 × zSt) :=
  if (zI sM 24) ≤ 0 then (zn ((zI sM 22) : Int32) fun x4_1 => fM_numberIn_l17  zF sM a0 a1 0 x4_1) else (some (0, sM))
/-! WhatWasHersModel.oneOf(JJJJJ)I -/
abbrev rmX12_oneOf : Room := { frames := 3, cells := 0, slots := 0, locals := 63 }
def fM_oneOf_b78  (sM : zSt) (t0 : Int32) : Option (Int32 × zSt) :=
  if (zI sM 24) = 0 then (if t0 = (-1000000) then (Option.bind (fM_must sM 0) fun y2 => some (t0, y2)) else (Option.bind (fM_must sM 1) fun y3 => some (t0, y3))) else (some (t0, sM))
def fM_oneOf (sM : zSt) (a0 : Int64) (a1 : Int64) (a2 : Int64) (a3 : Int64) (a4 : Int64) : Option (Int32 × zSt) :=
  Option.bind (fM_word sM) fun y1 => if y1 = 0 then (fM_oneOf_b78  sM (-1000000)) else (if y1 = a0 then (fM_oneOf_b78  sM 0) else (if y1 = a1 then (fM_oneOf_b78  sM 1) else (if y1 = a2 then (fM_oneOf_b78  sM 2) else (if y1 = a3 then (fM_oneOf_b78  sM 3) else (if y1 = a4 then (fM_oneOf_b78  sM 4) else (fM_oneOf_b78  sM (-1000000)))))))
/-! WhatWasHersModel.mustEnd()V -/
abbrev rmX12_mustEnd : Room := { frames := 3, cells := 0, slots := 0, locals := 63 }
def fM_mustEnd (sM : zSt)  : Option (zSt) :=
  if (zI sM 24) = 0 then (if (zI sM 21) = 4 then (Option.bind (fM_must sM 1) fun y2 => some (y2)) else (Option.bind (fM_must sM 0) fun y1 => some (y1))) else (some (sM))
/-! WhatWasHersModel.readLaw()V -/
abbrev rmX12_readLaw : Room := { frames := 4, cells := 0, slots := 0, locals := 96 }
def fM_readLaw_l56b (K56 : zSt → Int32 → Int32 → Option (zSt)) (sM : zSt) (x1 : Int32) (x2 : Int32) : Option (zSt) :=
  if 4 ≤ x2 then (Option.bind (fM_oneOf sM 1836020596 1651471464 (-1) (-1) (-1)) fun y5 => zg (zix (x1 + 4) 32) <| zn (zsA y5.2 14 (x1 + 4).toNatClampNeg y5.1) fun sM6 => Option.bind (fM_oneOf sM6 1937075571 482671228019 512970880104 1818588019 1836020325) fun y7 => zg (zix (x1 + 5) 32) <| zn (zsA y7.2 14 (x1 + 5).toNatClampNeg y7.1) fun sM8 => Option.bind (fM_oneOf sM8 495873784179 6384748 (-1) (-1) (-1)) fun y9 => zg (zix (x1 + 6) 32) <| zn (zsA y9.2 14 (x1 + 6).toNatClampNeg y9.1) fun sM10 => Option.bind (fM_numberIn sM10 0 100) fun y11 => zg (zix (x1 + 7) 32) <| zn (zsA y11.2 14 (x1 + 7).toNatClampNeg y11.1) fun sM12 => Option.bind (fM_mustEnd sM12) fun y13 => zn (zsI y13 11 ((zI y13 11) + 1)) fun sM14 => some (sM14)) else (Option.bind (fM_oneOf sM 7305070 1651471464 (-1) (-1) (-1)) fun y15 => zg (zix (x1 + x2) 32) <| zn (zsA y15.2 14 (x1 + x2).toNatClampNeg y15.1) fun sM16 => zn (x2 + 1 : Int32) fun x2_17 => K56 sM16 x1 x2_17)
def fM_readLaw_l56  : Nat → zSt → Int32 → Int32 → Option (zSt)
  | 0, _, _, _ => none
  | n + 1, v0, v1, v2 => fM_readLaw_l56b  (fun v0 v1 v2 => fM_readLaw_l56  n v0 v1 v2) v0 v1 v2
def fM_readLaw_b41  (sM : zSt) (t0 : Int32) : Option (zSt) :=
  Option.bind (fM_must sM t0) fun y3 => zg (znz 4) <| zn ((8 * ((zI y3 11) - (zI y3 11) / 4 * 4)) : Int32) fun x1_4 => fM_readLaw_l56  zF y3 x1_4 0
def fM_readLaw_b24  (sM : zSt)  : Option (zSt) :=
  Option.bind (fM_word sM) fun y2 => if y2 = 7102839 then (fM_readLaw_b41  sM 1) else (fM_readLaw_b41  sM 0)
def fM_readLaw (sM : zSt)  : Option (zSt) :=
  Option.bind (fM_word sM) fun y1 => if y1 = 7102839 then (if (zI sM 11) = 4 then (Option.bind (fM_bad sM 3) fun y18 => fM_readLaw_b24  y18) else (fM_readLaw_b24  sM)) else (fM_readLaw_b24  sM)
/-! WhatWasHersModel.kindOfWord()I -/
abbrev rmX12_kindOfWord : Room := { frames := 1, cells := 0, slots := 0, locals := 23 }
def fM_kindOfWord (sM : zSt)  : Option (Int32) :=
  Option.bind (fM_word sM) fun y1 => if y1 = 1668246885 then (some (0)) else (if y1 = 6452601 then (some (1)) else (if y1 = 7370100 then (some (2)) else (if y1 = 7237495 then (some (3)) else (if y1 = 1870095731 then (some (4)) else (if y1 = 1818324580 then (some (5)) else (if y1 = 418347378021 then (some (6)) else (some ((-1000000)))))))))
/-! WhatWasHersModel.readNumbers(II)V -/
abbrev rmX12_readNumbers : Room := { frames := 4, cells := 0, slots := 0, locals := 96 }
def fM_readNumbers_b197  (sM : zSt) (x1 : Int32) (x2 : Int32) (t0 : Int32) (t1 : Int32) : Option (zSt) :=
  zg (zix t1 180) <| zn (zsA sM 15 t1.toNatClampNeg t0) fun sM4 => if x1 = 2 then (Option.bind (fM_numberIn sM4 1 99) fun y6 => zg (zix (x2 + 4) 180) <| zn (zsA y6.2 15 (x2 + 4).toNatClampNeg y6.1) fun sM7 => some (sM7)) else (zg (zix (x2 + 4) 180) <| zn (zsA sM4 15 (x2 + 4).toNatClampNeg 0) fun sM5 => some (sM5))
def fM_readNumbers_b150  (sM : zSt) (x1 : Int32) (x2 : Int32) : Option (zSt) :=
  Option.bind (fM_numberIn sM 0 ((zI sM 13) - 1)) fun y1 => zg (zix (x2 + 2) 180) <| zn (zsA y1.2 15 (x2 + 2).toNatClampNeg y1.1) fun sM2 => if x1 = 2 then (Option.bind (fM_numberIn sM2 0 2) fun y8 => fM_readNumbers_b197  y8.2 x1 x2 y8.1 (x2 + 3)) else (Option.bind (fM_numberIn sM2 0 99) fun y3 => fM_readNumbers_b197  y3.2 x1 x2 y3.1 (x2 + 3))
def fM_readNumbers_b286  (sM : zSt) (x1 : Int32) (x2 : Int32) (t0 : Int32) (t1 : Int32) (t3 : Int32) : Option (zSt) :=
  Option.bind (fM_numberIn sM t1 t0) fun y9 => zg (zix t3 180) <| zn (zsA y9.2 15 t3.toNatClampNeg y9.1) fun sM10 => if x1 = 6 then (Option.bind (fM_numberIn sM10 0 2) fun y12 => zg (zix (x2 + 3) 180) <| zn (zsA y12.2 15 (x2 + 3).toNatClampNeg y12.1) fun sM13 => some (sM13)) else (zg (zix (x2 + 3) 180) <| zn (zsA sM10 15 (x2 + 3).toNatClampNeg 0) fun sM11 => some (sM11))
def fM_readNumbers_b131  (sM : zSt) (t0 : Int32) (t2 : Int32) : Option (zSt) :=
  Option.bind (fM_numberIn sM t0 99) fun y22 => zg (zix t2 180) <| zn (zsA y22.2 15 t2.toNatClampNeg y22.1) fun sM23 => some (sM23)
def fM_readNumbers (sM : zSt) (a0 : Int32) (a1 : Int32) : Option (zSt) :=
  if a0 = 0 then (Option.bind (fM_oneOf sM 27710370754291828 444150998382 111469206070628 114784770090340 (-1)) fun y24 => zg (zix (a1 + 2) 180) <| zn (zsA y24.2 15 (a1 + 2).toNatClampNeg y24.1) fun sM25 => Option.bind (fM_numberIn sM25 0 1) fun y26 => zg (zix (a1 + 3) 180) <| zn (zsA y26.2 15 (a1 + 3).toNatClampNeg y26.1) fun sM27 => Option.bind (fM_numberIn sM27 1 99) fun y28 => zg (zix (a1 + 4) 180) <| zn (zsA y28.2 15 (a1 + 4).toNatClampNeg y28.1) fun sM29 => some (sM29)) else (if a0 = 1 then (Option.bind (fM_numberIn sM 0 99) fun y18 => zg (zix (a1 + 2) 180) <| zn (zsA y18.2 15 (a1 + 2).toNatClampNeg y18.1) fun sM19 => Option.bind (fM_numberIn sM19 0 99) fun y20 => zg (zix (a1 + 3) 180) <| zn (zsA y20.2 15 (a1 + 3).toNatClampNeg y20.1) fun sM21 => zg (zix (a1 + 2) 180) <| zg (zix (a1 + 3) 180) <| if ((zA sM21 15 (a1 + 2).toNatClampNeg) + (zA sM21 15 (a1 + 3).toNatClampNeg)) ≤ 0 then (fM_readNumbers_b131  sM21 1 (a1 + 4)) else (fM_readNumbers_b131  sM21 0 (a1 + 4))) else (if a0 = 2 then (fM_readNumbers_b150  sM a0 a1) else (if a0 = 3 then (fM_readNumbers_b150  sM a0 a1) else (if a0 = 4 then (Option.bind (fM_numberIn sM 0 2) fun y14 => zg (zix (a1 + 2) 180) <| zn (zsA y14.2 15 (a1 + 2).toNatClampNeg y14.1) fun sM15 => Option.bind (fM_numberIn sM15 1 99) fun y16 => zg (zix (a1 + 3) 180) <| zn (zsA y16.2 15 (a1 + 3).toNatClampNeg y16.1) fun sM17 => some (sM17)) else (if a0 = 5 then (fM_readNumbers_b286  sM a0 a1 ((zI sM 11) - 1) 0 (a1 + 2)) else (fM_readNumbers_b286  sM a0 a1 4 0 (a1 + 2)))))))
/-! WhatWasHersModel.readEvent(I)V -/
abbrev rmX12_readEvent : Room := { frames := 5, cells := 0, slots := 0, locals := 118 }
def fM_readEvent_b65  (sM : zSt) (x1 : Int32) (x2 : Int32) (x3 : Int32) (t0 : Int32) : Option (zSt) :=
  Option.bind (fM_must sM t0) fun y2 => if (zI y2 24) ≤ 0 then (zn ((6 * (zI y2 12)) : Int32) fun x4_3 => zg (zix x4_3 180) <| zn (zsA y2 15 x4_3.toNatClampNeg x2) fun sM4 => Option.bind (fM_numberIn sM4 x1 999) fun y5 => zg (zix (x4_3 + 1) 180) <| zn (zsA y5.2 15 (x4_3 + 1).toNatClampNeg y5.1) fun sM6 => Option.bind (fM_readNumbers sM6 x2 x4_3) fun y7 => Option.bind (fM_mustEnd y7) fun y8 => zn (zsI y8 12 ((zI y8 12) + 1)) fun sM9 => if x3 = 0 then (zn (zsI sM9 13 ((zI sM9 13) + 0)) fun sM10 => some (sM10)) else (zn (zsI sM9 13 ((zI sM9 13) + 1)) fun sM11 => some (sM11))) else (some (y2))
def fM_readEvent_b53  (sM : zSt) (x1 : Int32) (x2 : Int32) (x3 : Int32) : Option (zSt) :=
  if x2 = (-1000000) then (fM_readEvent_b65  sM x1 x2 x3 0) else (fM_readEvent_b65  sM x1 x2 x3 1)
def fM_readEvent_b35  (sM : zSt) (x1 : Int32) (x2 : Int32) (x3 : Int32) : Option (zSt) :=
  if x3 = 0 then (fM_readEvent_b53  sM x1 x2 x3) else (if (zI sM 13) = 10 then (Option.bind (fM_bad sM 3) fun y12 => fM_readEvent_b53  y12 x1 x2 x3) else (fM_readEvent_b53  sM x1 x2 x3))
def fM_readEvent_b19  (sM : zSt) (x1 : Int32) (x2 : Int32) (t0 : Int32) : Option (zSt) :=
  if x2 = (-1000000) then (fM_readEvent_b35  sM x1 x2 t0) else (if (zI sM 12) = 30 then (Option.bind (fM_bad sM 3) fun y13 => fM_readEvent_b53  y13 x1 x2 t0) else (fM_readEvent_b35  sM x1 x2 t0))
def fM_readEvent (sM : zSt) (a0 : Int32) : Option (zSt) :=
  Option.bind (fM_kindOfWord sM) fun y1 => if y1 = 0 then (fM_readEvent_b19  sM a0 y1 1) else (if y1 = 1 then (fM_readEvent_b19  sM a0 y1 1) else (fM_readEvent_b19  sM a0 y1 0))
/-! WhatWasHersModel.life()J -/
abbrev rmX12_life : Room := { frames := 6, cells := 0, slots := 0, locals := 142 }
def fM_life_l199b (K199 : zSt → Int32 → Option (Int64 × zSt)) (sM : zSt) (x1 : Int32) : Option (Int64 × zSt) :=
  if 32 ≤ x1 then (some (((zI sM 7).toInt64), sM)) else (zg (zix x1 32) <| zg (zix x1 32) <| zn (zsA sM 9 x1.toNatClampNeg (zA sM 14 x1.toNatClampNeg)) fun sM16 => zn (x1 + 1 : Int32) fun x1_17 => K199 sM16 x1_17)
def fM_life_l199  : Nat → zSt → Int32 → Option (Int64 × zSt)
  | 0, _, _ => none
  | n + 1, v0, v1 => fM_life_l199b  (fun v0 v1 => fM_life_l199  n v0 v1) v0 v1
def fM_life_l172b (K172 : zSt → Int32 → Option (Int64 × zSt)) (sM : zSt) (x1 : Int32) : Option (Int64 × zSt) :=
  if 180 ≤ x1 then (fM_life_l199  zF sM 0) else (zg (zix x1 180) <| zg (zix x1 180) <| zn (zsA sM 10 x1.toNatClampNeg (zA sM 15 x1.toNatClampNeg)) fun sM18 => zn (x1 + 1 : Int32) fun x1_19 => K172 sM18 x1_19)
def fM_life_l172  : Nat → zSt → Int32 → Option (Int64 × zSt)
  | 0, _, _ => none
  | n + 1, v0, v1 => fM_life_l172b  (fun v0 v1 => fM_life_l172  n v0 v1) v0 v1
def fM_life_b116  (sM : zSt)  : Option (Int64 × zSt) :=
  if (zI sM 24) ≤ 0 then (zn (zsI sM 5 1) fun sM12 => zn (zsI sM12 6 (zI sM12 11)) fun sM13 => zn (zsI sM13 7 (zI sM13 12)) fun sM14 => zn (zsI sM14 8 (zI sM14 13)) fun sM15 => fM_life_l172  zF sM15 0) else (zn (zsI sM 18 (zI sM 24)) fun sM20 => some (((-9000000000000000100) - ((zI sM20 25).toInt64)), sM20))
def fM_life_l69b (K69 : zSt → Option (Int64 × zSt)) (sM : zSt)  : Option (Int64 × zSt) :=
  if (zI sM 24) = 0 then (if (zI sM 21) = 1 then (fM_life_b116  sM) else (if (zI sM 12) = 0 then (Option.bind (fM_readEvent sM 0) fun y22 => K69 y22) else (zg (zix ((6 * (zI sM 12)) - 5) 180) <| Option.bind (fM_readEvent sM (zA sM 15 ((6 * (zI sM 12)) - 5).toNatClampNeg)) fun y21 => K69 y21))) else (fM_life_b116  sM)
def fM_life_l69  : Nat → zSt → Option (Int64 × zSt)
  | 0, _ => none
  | n + 1, v0 => fM_life_l69b  (fun v0 => fM_life_l69  n v0) v0
def fM_life_l51b (K51 : zSt → Option (Int64 × zSt)) (sM : zSt)  : Option (Int64 × zSt) :=
  Option.bind (fM_word sM) fun y11 => if y11 = 7102839 then (Option.bind (fM_readLaw sM) fun y23 => K51 y23) else (fM_life_l69  zF sM)
def fM_life_l51  : Nat → zSt → Option (Int64 × zSt)
  | 0, _ => none
  | n + 1, v0 => fM_life_l51b  (fun v0 => fM_life_l51  n v0) v0
def fM_life (sM : zSt)  : Option (Int64 × zSt) :=
  zn (zsI sM 0 0) fun sM1 => zn (zsI sM1 19 (zI sM1 17)) fun sM2 => zn (zsI sM2 17 0) fun sM3 => zn (zsI sM3 20 0) fun sM4 => zn (zsI sM4 24 0) fun sM5 => zn (zsI sM5 11 0) fun sM6 => zn (zsI sM6 12 0) fun sM7 => zn (zsI sM7 13 0) fun sM8 => Option.bind (fM_next sM8) fun y9 => Option.bind (fM_readLaw y9) fun y10 => fM_life_l51  zF y10
/-! WhatWasHersModel.fault()I -/
abbrev rmX12_fault : Room := { frames := 0, cells := 0, slots := 0, locals := 0 }
def fM_fault (sM : zSt)  : Option (Int32 × zSt) :=
  zn (zsI sM 0 0) fun sM1 => some ((zI sM1 18), sM1)
/-! WhatWasHersModel.byLaw(I)I -/
abbrev rmX12_byLaw : Room := { frames := 0, cells := 0, slots := 0, locals := 0 }
def fM_byLaw_b89 (K53 : zSt → Int32 → Int32 → Int32 → Int32 → Int32 → Option (Int32)) (sM : zSt) (x1 : Int32) (x2 : Int32) (x4 : Int32) (x5 : Int32) (t0 : Int32) : Option (Int32) :=
  zg (zix ((3 * x1) + x5) 30) <| if (zA sM 38 ((3 * x1) + x5).toNatClampNeg) ≤ 0 then (zn ((x4 + 0) : Int32) fun x4_2 => zn (x5 + 1 : Int32) fun x5_3 => K53 sM x1 x2 t0 x4_2 x5_3) else (zn ((x4 + 1) : Int32) fun x4_4 => zn (x5 + 1 : Int32) fun x5_5 => K53 sM x1 x2 t0 x4_4 x5_5)
def fM_byLaw_l53b (K53 : zSt → Int32 → Int32 → Int32 → Int32 → Int32 → Option (Int32)) (sM : zSt) (x1 : Int32) (x2 : Int32) (x3 : Int32) (x4 : Int32) (x5 : Int32) : Option (Int32) :=
  if 3 ≤ x5 then (zg (zix (x2 + 4) 32) <| if (zA sM 9 (x2 + 4).toNatClampNeg) = 1 then (if x4 ≤ 1 then (some (x3)) else (some (2))) else (some (x3))) else (zg (zix ((3 * x1) + x5) 30) <| zg (zix ((3 * x1) + x3) 30) <| if (zA sM 38 ((3 * x1) + x5).toNatClampNeg) ≤ (zA sM 38 ((3 * x1) + x3).toNatClampNeg) then (fM_byLaw_b89 K53 sM x1 x2 x4 x5 x3) else (fM_byLaw_b89 K53 sM x1 x2 x4 x5 x5))
def fM_byLaw_l53  : Nat → zSt → Int32 → Int32 → Int32 → Int32 → Int32 → Option (Int32)
  | 0, _, _, _, _, _, _ => none
  | n + 1, v0, v1, v2, v3, v4, v5 => fM_byLaw_l53b  (fun v0 v1 v2 v3 v4 v5 => fM_byLaw_l53  n v0 v1 v2 v3 v4 v5) v0 v1 v2 v3 v4 v5
def fM_byLaw (sM : zSt) (a0 : Int32) : Option (Int32) :=
  zn ((8 * (zI sM 26)) : Int32) fun x2_1 => zg (zix a0 10) <| if 4 ≤ (zA sM 37 a0.toNatClampNeg) then (fM_byLaw_l53  zF sM a0 x2_1 0 0 0) else (zg (zix a0 10) <| zg (zix (x2_1 + (zA sM 37 a0.toNatClampNeg)) 32) <| if (zA sM 9 (x2_1 + (zA sM 37 a0.toNatClampNeg)).toNatClampNeg) = 0 then (zg (zix a0 10) <| some ((zA sM 36 a0.toNatClampNeg))) else (some (2)))
/-! WhatWasHersModel.fall(III)V -/
abbrev rmX12_fall : Room := { frames := 1, cells := 0, slots := 0, locals := 25 }
def fM_fall_b68  (sM : zSt) (x1 : Int32) (x2 : Int32) (t0 : Int32) (t1 : Int32) : Option (zSt) :=
  zg (zix t1 10) <| zn (zsA sM 31 t1.toNatClampNeg t0) fun sM3 => zg (zix x1 10) <| zn (zsA sM3 33 x1.toNatClampNeg x2) fun sM4 => some (sM4)
def fM_fall_b52  (sM : zSt) (x1 : Int32) (x2 : Int32) (x3 : Int32) (x4 : Int32) (t0 : Int32) (t1 : Int32) : Option (zSt) :=
  zg (zix t1 10) <| zn (zsA sM 29 t1.toNatClampNeg t0) fun sM2 => if x4 = 0 then (fM_fall_b68  sM2 x1 x2 x3 x1) else (fM_fall_b68  sM2 x1 x2 1 x1)
def fM_fall_b21  (sM : zSt) (x1 : Int32) (x2 : Int32) (x3 : Int32) (t0 : Int32) : Option (zSt) :=
  if t0 = 0 then (Option.bind (fM_byLaw sM x1) fun y1 => fM_fall_b52  sM x1 x2 x3 t0 y1 x1) else (zg (zix x1 10) <| zg (zix (zA sM 37 x1.toNatClampNeg) 5) <| fM_fall_b52  sM x1 x2 x3 t0 (zA sM 27 (zA sM 37 x1.toNatClampNeg).toNatClampNeg) x1)
def fM_fall (sM : zSt) (a0 : Int32) (a1 : Int32) (a2 : Int32) : Option (zSt) :=
  zg (zix a0 10) <| zg (zix (zA sM 37 a0.toNatClampNeg) 5) <| if (zA sM 27 (zA sM 37 a0.toNatClampNeg).toNatClampNeg) = (-1000000) then (fM_fall_b21  sM a0 a1 a2 0) else (fM_fall_b21  sM a0 a1 a2 1)
/-! WhatWasHersModel.putIn(III)V -/
abbrev rmX12_putIn : Room := { frames := 0, cells := 0, slots := 0, locals := 0 }
def fM_putIn (sM : zSt) (a0 : Int32) (a1 : Int32) (a2 : Int32) : Option (zSt) :=
  zg (zix (zI sM 40) 90) <| zn (zsA sM 41 (zI sM 40).toNatClampNeg a0) fun sM1 => zg (zix (zI sM1 40) 90) <| zn (zsA sM1 42 (zI sM1 40).toNatClampNeg a1) fun sM2 => zg (zix (zI sM2 40) 90) <| zn (zsA sM2 43 (zI sM2 40).toNatClampNeg a2) fun sM3 => zg (zix a0 10) <| zg (zix (zI sM3 40) 90) <| zn (zsA sM3 44 (zI sM3 40).toNatClampNeg (zA sM3 34 a0.toNatClampNeg)) fun sM4 => zn (zsI sM4 40 ((zI sM4 40) + 1)) fun sM5 => some (sM5)
/-! WhatWasHersModel.bring(II)V -/
abbrev rmX12_bring : Room := { frames := 2, cells := 0, slots := 0, locals := 49 }
def fM_bring_l198b (K198 : zSt → Int32 → Int32 → Int32 → Option (zSt)) (sM : zSt) (x1 : Int32) (x3 : Int32) (x6 : Int32) : Option (zSt) :=
  if 3 ≤ x6 then (Option.bind (fM_fall sM x3 x1 0) fun y8 => zg (zix x3 10) <| zg (zix x3 10) <| zn (zsA y8 30 x3.toNatClampNeg (zA y8 29 x3.toNatClampNeg)) fun sM9 => some (sM9)) else (zg (zix ((3 * x3) + x6) 30) <| if (zA sM 38 ((3 * x3) + x6).toNatClampNeg) ≤ 0 then (zn (x6 + 1 : Int32) fun x6_10 => K198 sM x1 x3 x6_10) else (zg (zix ((3 * x3) + x6) 30) <| Option.bind (fM_putIn sM x3 x6 (zA sM 38 ((3 * x3) + x6).toNatClampNeg)) fun y11 => zn (x6 + 1 : Int32) fun x6_12 => K198 y11 x1 x3 x6_12))
def fM_bring_l198  : Nat → zSt → Int32 → Int32 → Int32 → Option (zSt)
  | 0, _, _, _, _ => none
  | n + 1, v0, v1, v2, v3 => fM_bring_l198b  (fun v0 v1 v2 v3 => fM_bring_l198  n v0 v1 v2 v3) v0 v1 v2 v3
def fM_bring_b187  (sM : zSt) (x1 : Int32) (x3 : Int32) (t0 : Int32) (t1 : Int32) : Option (zSt) :=
  zg (zix t1 10) <| zn (zsA sM 34 t1.toNatClampNeg t0) fun sM6 => zg (zix x3 10) <| zn (zsA sM6 32 x3.toNatClampNeg x1) fun sM7 => fM_bring_l198  zF sM7 x1 x3 0
def fM_bring_b165  (sM : zSt) (x1 : Int32) (x3 : Int32) (x4 : Int32) (x5 : Int32) (t0 : Int32) (t1 : Int32) : Option (zSt) :=
  zg (zix t1 10) <| zn (zsA sM 35 t1.toNatClampNeg t0) fun sM5 => if x4 = 0 then (zg (zix x3 10) <| fM_bring_b187  sM5 x1 x3 (zA sM5 35 x3.toNatClampNeg) x3) else (fM_bring_b187  sM5 x1 x3 x5 x3)
def fM_bring_b142  (sM : zSt) (x1 : Int32) (x2 : Int32) (x3 : Int32) (x4 : Int32) (x5 : Int32) (t0 : Int32) (t1 : Int32) : Option (zSt) :=
  zg (zix t1 10) <| zn (zsA sM 36 t1.toNatClampNeg t0) fun sM4 => if x4 = 0 then (zg (zix (x2 + 4) 180) <| fM_bring_b165  sM4 x1 x3 x4 x5 (zA sM4 10 (x2 + 4).toNatClampNeg) x3) else (fM_bring_b165  sM4 x1 x3 x4 x5 0 x3)
def fM_bring_b119  (sM : zSt) (x1 : Int32) (x2 : Int32) (x3 : Int32) (x4 : Int32) (x5 : Int32) (t0 : Int32) (t1 : Int32) : Option (zSt) :=
  zg (zix t1 10) <| zn (zsA sM 37 t1.toNatClampNeg t0) fun sM3 => if x4 = 0 then (zg (zix (x2 + 3) 180) <| fM_bring_b142  sM3 x1 x2 x3 x4 x5 (zA sM3 10 (x2 + 3).toNatClampNeg) x3) else (fM_bring_b142  sM3 x1 x2 x3 x4 x5 0 x3)
def fM_bring_b74 (K38 : zSt → Int32 → Int32 → Int32 → Int32 → Int32 → Int32 → Option (zSt)) (sM : zSt) (x1 : Int32) (x2 : Int32) (x3 : Int32) (x4 : Int32) (x5 : Int32) (x6 : Int32) (t0 : Int32) (t1 : Int32) : Option (zSt) :=
  zg (zix t1 30) <| zn (zsA sM 38 t1.toNatClampNeg t0) fun sM13 => zg (zix ((3 * x3) + x6) 30) <| zn ((x5 + (zA sM13 38 ((3 * x3) + x6).toNatClampNeg)) : Int32) fun x5_14 => zn (x6 + 1 : Int32) fun x6_15 => K38 sM13 x1 x2 x3 x4 x5_14 x6_15
def fM_bring_l38b (K38 : zSt → Int32 → Int32 → Int32 → Int32 → Int32 → Int32 → Option (zSt)) (sM : zSt) (x1 : Int32) (x2 : Int32) (x3 : Int32) (x4 : Int32) (x5 : Int32) (x6 : Int32) : Option (zSt) :=
  if 3 ≤ x6 then (if x4 = 0 then (zg (zix (x2 + 2) 180) <| fM_bring_b119  sM x1 x2 x3 x4 x5 (zA sM 10 (x2 + 2).toNatClampNeg) x3) else (fM_bring_b119  sM x1 x2 x3 x4 x5 4 x3)) else (if x4 = 0 then (fM_bring_b74 K38 sM x1 x2 x3 x4 x5 x6 0 ((3 * x3) + x6)) else (zg (zix ((x2 + 2) + x6) 180) <| fM_bring_b74 K38 sM x1 x2 x3 x4 x5 x6 (zA sM 10 ((x2 + 2) + x6).toNatClampNeg) ((3 * x3) + x6)))
def fM_bring_l38  : Nat → zSt → Int32 → Int32 → Int32 → Int32 → Int32 → Int32 → Option (zSt)
  | 0, _, _, _, _, _, _, _ => none
  | n + 1, v0, v1, v2, v3, v4, v5, v6 => fM_bring_l38b  (fun v0 v1 v2 v3 v4 v5 v6 => fM_bring_l38  n v0 v1 v2 v3 v4 v5 v6) v0 v1 v2 v3 v4 v5 v6
def fM_bring_b30  (sM : zSt) (x1 : Int32) (x2 : Int32) (x3 : Int32) (t0 : Int32) : Option (zSt) :=
  fM_bring_l38  zF sM x1 x2 x3 t0 0 0
def fM_bring (sM : zSt) (a0 : Int32) (a1 : Int32) : Option (zSt) :=
  zn ((zI sM 28) : Int32) fun x3_1 => zn (zsI sM 28 ((zI sM 28) + 1)) fun sM2 => zg (zix a1 180) <| if (zA sM2 10 a1.toNatClampNeg) = 1 then (fM_bring_b30  sM2 a0 a1 x3_1 1) else (fM_bring_b30  sM2 a0 a1 x3_1 0)
/-! WhatWasHersModel.move(II)V -/
abbrev rmX12_move : Room := { frames := 2, cells := 0, slots := 0, locals := 49 }
def fM_move_l7b (K7 : zSt → Int32 → Int32 → Int32 → Option (zSt)) (sM : zSt) (x1 : Int32) (x2 : Int32) (x3 : Int32) : Option (zSt) :=
  if (zI sM 28) ≤ x3 then (some (sM)) else (zg (zix ((8 * x1) + 6) 32) <| if (zA sM 9 ((8 * x1) + 6).toNatClampNeg) = 1 then (Option.bind (fM_fall sM x3 x2 2) fun y2 => zn (x3 + 1 : Int32) fun x3_3 => K7 y2 x1 x2 x3_3) else (some (sM)))
def fM_move_l7  : Nat → zSt → Int32 → Int32 → Int32 → Option (zSt)
  | 0, _, _, _, _ => none
  | n + 1, v0, v1, v2, v3 => fM_move_l7b  (fun v0 v1 v2 v3 => fM_move_l7  n v0 v1 v2 v3) v0 v1 v2 v3
def fM_move (sM : zSt) (a0 : Int32) (a1 : Int32) : Option (zSt) :=
  zn (zsI sM 26 a0) fun sM1 => fM_move_l7  zF sM1 a0 a1 0
/-! WhatWasHersModel.happen(I)V -/
abbrev rmX12_happen : Room := { frames := 3, cells := 0, slots := 0, locals := 75 }
def fM_happen (sM : zSt) (a0 : Int32) : Option (zSt) :=
  zn ((6 * a0) : Int32) fun x2_1 => zg (zix (x2_1 + 2) 180) <| zn ((zA sM 10 (x2_1 + 2).toNatClampNeg) : Int32) fun x3_2 => zg (zix (x2_1 + 3) 180) <| zn ((zA sM 10 (x2_1 + 3).toNatClampNeg) : Int32) fun x4_3 => zg (zix x2_1 180) <| if (zA sM 10 x2_1.toNatClampNeg) = 2 then (zg (zix x3_2 10) <| zg (zix (x2_1 + 4) 180) <| zg (zix x3_2 10) <| zn (zsA sM 34 x3_2.toNatClampNeg ((zA sM 34 x3_2.toNatClampNeg) + (zA sM 10 (x2_1 + 4).toNatClampNeg))) fun sM4 => zg (zix (x2_1 + 4) 180) <| Option.bind (fM_putIn sM4 x3_2 x4_3 (zA sM4 10 (x2_1 + 4).toNatClampNeg)) fun y5 => some (y5)) else (if (zA sM 10 x2_1.toNatClampNeg) = 3 then (zg (zix x3_2 10) <| zn (zsA sM 34 x3_2.toNatClampNeg x4_3) fun sM6 => some (sM6)) else (if (zA sM 10 x2_1.toNatClampNeg) = 4 then (zg (zix x3_2 3) <| zg (zix x3_2 3) <| zn (zsA sM 39 x3_2.toNatClampNeg ((zA sM 39 x3_2.toNatClampNeg) + x4_3)) fun sM7 => some (sM7)) else (if (zA sM 10 x2_1.toNatClampNeg) = 5 then (Option.bind (fM_move sM x3_2 a0) fun y8 => some (y8)) else (if (zA sM 10 x2_1.toNatClampNeg) = 6 then (zg (zix x3_2 5) <| zn (zsA sM 27 x3_2.toNatClampNeg x4_3) fun sM9 => some (sM9)) else (Option.bind (fM_bring sM a0 x2_1) fun y10 => some (y10))))))
/-! WhatWasHersModel.goThrough(IIIIII)V -/
abbrev rmX12_goThrough : Room := { frames := 4, cells := 0, slots := 0, locals := 99 }
def fM_goThrough_b134 (K89 : zSt → Int32 → Int32 → Int32 → Int32 → Int32 → Int32 → Option (zSt)) (sM : zSt) (x1 : Int32) (x2 : Int32) (x3 : Int32) (x4 : Int32) (x7 : Int32) (x8 : Int32) (x9 : Int32) : Option (zSt) :=
  if x1 < x9 then (zn (x8 + 1 : Int32) fun x8_6 => K89 sM x1 x2 x3 x4 x7 x8_6) else (if x8 = x2 then (zn (x8 + 1 : Int32) fun x8_7 => K89 sM x1 x2 x3 x4 x7 x8_7) else (Option.bind (fM_happen sM x8) fun y8 => zn (x8 + 1 : Int32) fun x8_9 => K89 y8 x1 x2 x3 x4 x7 x8_9))
def fM_goThrough_l89b (K89 : zSt → Int32 → Int32 → Int32 → Int32 → Int32 → Int32 → Option (zSt)) (sM : zSt) (x1 : Int32) (x2 : Int32) (x3 : Int32) (x4 : Int32) (x7 : Int32) (x8 : Int32) : Option (zSt) :=
  if (zI sM 7) ≤ x8 then (if x7 = 0 then (Option.bind (fM_move sM x4 (zI sM 7)) fun y4 => some (y4)) else (some (sM))) else (zg (zix ((6 * x8) + 1) 180) <| zn ((zA sM 10 ((6 * x8) + 1).toNatClampNeg) : Int32) fun x9_5 => if x7 = 0 then (if x9_5 < x3 then (fM_goThrough_b134 K89 sM x1 x2 x3 x4 x7 x8 x9_5) else (Option.bind (fM_move sM x4 x8) fun y10 => fM_goThrough_b134 K89 y10 x1 x2 x3 x4 1 x8 x9_5)) else (fM_goThrough_b134 K89 sM x1 x2 x3 x4 x7 x8 x9_5))
def fM_goThrough_l89  : Nat → zSt → Int32 → Int32 → Int32 → Int32 → Int32 → Int32 → Option (zSt)
  | 0, _, _, _, _, _, _, _ => none
  | n + 1, v0, v1, v2, v3, v4, v5, v6 => fM_goThrough_l89b  (fun v0 v1 v2 v3 v4 v5 v6 => fM_goThrough_l89  n v0 v1 v2 v3 v4 v5 v6) v0 v1 v2 v3 v4 v5 v6
def fM_goThrough_l54b (K54 : zSt → Int32 → Int32 → Int32 → Int32 → Int32 → Option (zSt)) (sM : zSt) (x1 : Int32) (x2 : Int32) (x3 : Int32) (x4 : Int32) (x7 : Int32) : Option (zSt) :=
  if 3 ≤ x7 then (if 0 ≤ x4 then (fM_goThrough_l89  zF sM x1 x2 x3 x4 0 0) else (fM_goThrough_l89  zF sM x1 x2 x3 x4 1 0)) else (zg (zix x7 3) <| zn (zsA sM 39 x7.toNatClampNeg 0) fun sM11 => zn (x7 + 1 : Int32) fun x7_12 => K54 sM11 x1 x2 x3 x4 x7_12)
def fM_goThrough_l54  : Nat → zSt → Int32 → Int32 → Int32 → Int32 → Int32 → Option (zSt)
  | 0, _, _, _, _, _, _ => none
  | n + 1, v0, v1, v2, v3, v4, v5 => fM_goThrough_l54b  (fun v0 v1 v2 v3 v4 v5 => fM_goThrough_l54  n v0 v1 v2 v3 v4 v5) v0 v1 v2 v3 v4 v5
def fM_goThrough_l18b (K18 : zSt → Int32 → Int32 → Int32 → Int32 → Int32 → Int32 → Int32 → Option (zSt)) (sM : zSt) (x1 : Int32) (x2 : Int32) (x3 : Int32) (x4 : Int32) (x5 : Int32) (x6 : Int32) (x7 : Int32) : Option (zSt) :=
  if 5 ≤ x7 then (fM_goThrough_l54  zF sM x1 x2 x3 x4 0) else (if x7 = x5 then (zg (zix x7 5) <| zn (zsA sM 27 x7.toNatClampNeg x6) fun sM15 => zn (x7 + 1 : Int32) fun x7_16 => K18 sM15 x1 x2 x3 x4 x5 x6 x7_16) else (zg (zix x7 5) <| zn (zsA sM 27 x7.toNatClampNeg (-1000000)) fun sM13 => zn (x7 + 1 : Int32) fun x7_14 => K18 sM13 x1 x2 x3 x4 x5 x6 x7_14))
def fM_goThrough_l18  : Nat → zSt → Int32 → Int32 → Int32 → Int32 → Int32 → Int32 → Int32 → Option (zSt)
  | 0, _, _, _, _, _, _, _, _ => none
  | n + 1, v0, v1, v2, v3, v4, v5, v6, v7 => fM_goThrough_l18b  (fun v0 v1 v2 v3 v4 v5 v6 v7 => fM_goThrough_l18  n v0 v1 v2 v3 v4 v5 v6 v7) v0 v1 v2 v3 v4 v5 v6 v7
def fM_goThrough (sM : zSt) (a0 : Int32) (a1 : Int32) (a2 : Int32) (a3 : Int32) (a4 : Int32) (a5 : Int32) : Option (zSt) :=
  zn (zsI sM 26 0) fun sM1 => zn (zsI sM1 28 0) fun sM2 => zn (zsI sM2 40 0) fun sM3 => fM_goThrough_l18  zF sM3 a0 a1 a2 a3 a4 a5 0
/-! WhatWasHersModel.goAll()V -/
abbrev rmX12_goAll : Room := { frames := 5, cells := 0, slots := 0, locals := 128 }
def fM_goAll (sM : zSt)  : Option (zSt) :=
  Option.bind (fM_goThrough sM 999 (-1) (-1) (-1) (-1) (-1)) fun y1 => some (y1)
/-! WhatWasHersModel.isThing(I)Z -/
abbrev rmX12_isThing : Room := { frames := 1, cells := 0, slots := 0, locals := 25 }
def fM_isThing (sM : zSt) (a0 : Int32) : Option (Bool) :=
  Option.bind (fM_in (a0.toInt64) 0 (((zI sM 8) - 1).toInt64)) fun y1 => some (y1)
/-! WhatWasHersModel.whose(II)J -/
abbrev rmX12_whose : Room := { frames := 5, cells := 0, slots := 0, locals := 128 }
def fM_whose (sM : zSt) (a0 : Int32) (a1 : Int32) : Option (Int64 × zSt) :=
  zn (zsI sM 0 0) fun sM1 => Option.bind (fM_isThing sM1 a0) fun y2 => if y2 = true then (Option.bind (fM_in (a1.toInt64) 0 999) fun y3 => if y3 = true then (Option.bind (fM_goThrough sM1 a1 (-1) (-1) (-1) (-1) (-1)) fun y4 => if (zI y4 28) ≤ a0 then (some ((-1000000), y4)) else (zg (zix a0 10) <| some (((zA y4 29 a0.toNatClampNeg).toInt64), y4))) else (some ((-9000000000000000001), sM1))) else (some ((-9000000000000000001), sM1))
/-! WhatWasHersModel.putsInto(I)I -/
abbrev rmX12_putsInto : Room := { frames := 0, cells := 0, slots := 0, locals := 0 }
def fM_putsInto_l4b (K4 : zSt → Int32 → Int32 → Int32 → Option (Int32)) (sM : zSt) (x1 : Int32) (x2 : Int32) (x3 : Int32) : Option (Int32) :=
  if (zI sM 40) ≤ x3 then (some (x2)) else (zg (zix x3 90) <| if (zA sM 41 x3.toNatClampNeg) = x1 then (zn ((x2 + 1) : Int32) fun x2_3 => zn (x3 + 1 : Int32) fun x3_4 => K4 sM x1 x2_3 x3_4) else (zn ((x2 + 0) : Int32) fun x2_1 => zn (x3 + 1 : Int32) fun x3_2 => K4 sM x1 x2_1 x3_2))
def fM_putsInto_l4  : Nat → zSt → Int32 → Int32 → Int32 → Option (Int32)
  | 0, _, _, _, _ => none
  | n + 1, v0, v1, v2, v3 => fM_putsInto_l4b  (fun v0 v1 v2 v3 => fM_putsInto_l4  n v0 v1 v2 v3) v0 v1 v2 v3
def fM_putsInto (sM : zSt) (a0 : Int32) : Option (Int32) :=
  fM_putsInto_l4  zF sM a0 0 0
/-! WhatWasHersModel.thing(II)J -/
abbrev rmX12_thing : Room := { frames := 6, cells := 0, slots := 0, locals := 148 }
def fM_thing (sM : zSt) (a0 : Int32) (a1 : Int32) : Option (Int64 × zSt) :=
  zn (zsI sM 0 0) fun sM1 => Option.bind (fM_isThing sM1 a0) fun y2 => if y2 = true then (Option.bind (fM_in (a1.toInt64) 0 6) fun y3 => if y3 = true then (Option.bind (fM_goAll sM1) fun y4 => if a1 = 0 then (zg (zix a0 10) <| some (((zA y4 29 a0.toNatClampNeg).toInt64), y4)) else (if a1 = 1 then (zg (zix a0 10) <| some (((zA y4 31 a0.toNatClampNeg).toInt64), y4)) else (if a1 = 2 then (zg (zix a0 10) <| some (((zA y4 32 a0.toNatClampNeg).toInt64), y4)) else (if a1 = 3 then (zg (zix a0 10) <| some (((zA y4 33 a0.toNatClampNeg).toInt64), y4)) else (if a1 = 4 then (zg (zix a0 10) <| some (((zA y4 34 a0.toNatClampNeg).toInt64), y4)) else (if a1 = 5 then (Option.bind (fM_putsInto y4 a0) fun y5 => some ((y5.toInt64), y4)) else (zg (zix a0 10) <| some (((zA y4 37 a0.toNatClampNeg).toInt64), y4)))))))) else (some ((-9000000000000000001), sM1))) else (some ((-9000000000000000001), sM1))
/-! WhatWasHersModel.judge(II)J -/
abbrev rmX12_judge : Room := { frames := 6, cells := 0, slots := 0, locals := 148 }
def fM_judge_l126b (K126 : zSt → Int32 → Int32 → Int32 → Option (Int64 × zSt)) (sM : zSt) (x1 : Int32) (x2 : Int32) (x3 : Int32) : Option (Int64 × zSt) :=
  if (zI sM 8) ≤ x3 then (some ((-1000000), sM)) else (zg (zix x3 10) <| zg (zix (((40 * x1) + x2) + x3) 320) <| if (zA sM 29 x3.toNatClampNeg) = (zA sM 4 (((40 * x1) + x2) + x3).toNatClampNeg) then (zn (x3 + 1 : Int32) fun x3_6 => K126 sM x1 x2 x3_6) else (some ((x3.toInt64), sM)))
def fM_judge_l126  : Nat → zSt → Int32 → Int32 → Int32 → Option (Int64 × zSt)
  | 0, _, _, _, _ => none
  | n + 1, v0, v1, v2, v3 => fM_judge_l126b  (fun v0 v1 v2 v3 => fM_judge_l126  n v0 v1 v2 v3) v0 v1 v2 v3
def fM_judge_l73b (K73 : zSt → Int32 → Int32 → Int32 → Option (Int64 × zSt)) (sM : zSt) (x1 : Int32) (x2 : Int32) (x3 : Int32) : Option (Int64 × zSt) :=
  if (zI sM 8) ≤ x3 then (zn (zsI sM 1 0) fun sM4 => Option.bind (fM_goAll sM4) fun y5 => fM_judge_l126  zF y5 x1 x2 0) else (zg (zix (((40 * x1) + x2) + x3) 320) <| Option.bind (fM_in ((zA sM 4 (((40 * x1) + x2) + x3).toNatClampNeg).toInt64) 0 2) fun y7 => if y7 = true then (zn (x3 + 1 : Int32) fun x3_8 => K73 sM x1 x2 x3_8) else (some ((-9000000000000000001), sM)))
def fM_judge_l73  : Nat → zSt → Int32 → Int32 → Int32 → Option (Int64 × zSt)
  | 0, _, _, _, _ => none
  | n + 1, v0, v1, v2, v3 => fM_judge_l73b  (fun v0 v1 v2 v3 => fM_judge_l73  n v0 v1 v2 v3) v0 v1 v2 v3
def fM_judge (sM : zSt) (a0 : Int32) (a1 : Int32) : Option (Int64 × zSt) :=
  zn (zsI sM 0 0) fun sM1 => Option.bind (fM_isRow a0) fun y2 => if y2 = true then (if (zI sM1 5) = 0 then (some ((-9000000000000000002), sM1)) else (zg (zix a0 8) <| if 0 ≤ (zA sM1 2 a0.toNatClampNeg) then (if a1 < 0 then (Option.bind (fM_finding sM1 2) fun y3 => some (y3.1, y3.2)) else (zg (zix a0 8) <| if ((a1.toInt64) + ((zI sM1 8).toInt64)) ≤ ((zA sM1 3 a0.toNatClampNeg).toInt64) then (fM_judge_l73  zF sM1 a0 a1 0) else (Option.bind (fM_finding sM1 2) fun y9 => some (y9.1, y9.2)))) else (Option.bind (fM_finding sM1 1) fun y10 => some (y10.1, y10.2)))) else (some ((-9000000000000000001), sM1))
/-! WhatWasHersModel.laySums()V -/
abbrev rmX12_laySums : Room := { frames := 0, cells := 0, slots := 0, locals := 0 }
def fM_laySums_b237 (K137 : zSt → Int32 → Int32 → Option (zSt)) (sM : zSt) (x1 : Int32) (x2 : Int32) (x3 : Int32) (x4 : Int32) (x5 : Int32) (t0 : Int32) : Option (zSt) :=
  zg (zix x3 3) <| zg (zix x2 90) <| zg (zix x3 3) <| zn (zsL sM 46 x3.toNatClampNeg ((zL sM 46 x3.toNatClampNeg) + ((zA sM 43 x2.toNatClampNeg).toInt64))) fun sM5 => zg (zix x4 9) <| zg (zix x2 90) <| zg (zix x4 9) <| zn (zsL sM5 47 x4.toNatClampNeg ((zL sM5 47 x4.toNatClampNeg) + ((zA sM5 43 x2.toNatClampNeg).toInt64))) fun sM6 => zg (zix x4 9) <| if t0 = 0 then (zg (zix x4 9) <| zn (zsL sM6 48 x4.toNatClampNeg ((zL sM6 48 x4.toNatClampNeg) + (x5.toInt64))) fun sM7 => zn (x2 + 1 : Int32) fun x2_8 => K137 sM7 x1 x2_8) else (zg (zix x2 90) <| zg (zix x4 9) <| zn (zsL sM6 48 x4.toNatClampNeg ((zL sM6 48 x4.toNatClampNeg) + ((zA sM6 43 x2.toNatClampNeg).toInt64))) fun sM9 => zn (x2 + 1 : Int32) fun x2_10 => K137 sM9 x1 x2_10)
def fM_laySums_b216 (K137 : zSt → Int32 → Int32 → Option (zSt)) (sM : zSt) (x1 : Int32) (x2 : Int32) (x3 : Int32) (x4 : Int32) (x5 : Int32) : Option (zSt) :=
  if x1 = 4 then (zg (zix x2 90) <| if (zA sM 43 x2.toNatClampNeg) ≤ x5 then (fM_laySums_b237 K137 sM x1 x2 x3 x4 x5 0) else (fM_laySums_b237 K137 sM x1 x2 x3 x4 x5 1)) else (fM_laySums_b237 K137 sM x1 x2 x3 x4 x5 0)
def fM_laySums_l137b (K137 : zSt → Int32 → Int32 → Option (zSt)) (sM : zSt) (x1 : Int32) (x2 : Int32) : Option (zSt) :=
  if (zI sM 40) ≤ x2 then (some (sM)) else (zg (zix x2 90) <| zg (zix (zA sM 41 x2.toNatClampNeg) 10) <| zn ((zA sM 29 (zA sM 41 x2.toNatClampNeg).toNatClampNeg) : Int32) fun x3_2 => zg (zix x2 90) <| zn (((3 * (zA sM 42 x2.toNatClampNeg)) + x3_2) : Int32) fun x4_3 => zg (zix x2 90) <| zg (zix x2 90) <| zg (zix (zA sM 41 x2.toNatClampNeg) 10) <| zg (zix x2 90) <| zg (znz (zA sM 44 x2.toNatClampNeg)) <| zn ((((zA sM 43 x2.toNatClampNeg) * (zA sM 34 (zA sM 41 x2.toNatClampNeg).toNatClampNeg)) / (zA sM 44 x2.toNatClampNeg)) : Int32) fun x5_4 => if x1 = 0 then (fM_laySums_b237 K137 sM x1 x2 x3_2 x4_3 x5_4 1) else (if x1 = 3 then (zg (zix x2 90) <| if (zA sM 43 x2.toNatClampNeg) < x5_4 then (fM_laySums_b237 K137 sM x1 x2 x3_2 x4_3 x5_4 1) else (fM_laySums_b216 K137 sM x1 x2 x3_2 x4_3 x5_4)) else (fM_laySums_b216 K137 sM x1 x2 x3_2 x4_3 x5_4)))
def fM_laySums_l137  : Nat → zSt → Int32 → Int32 → Option (zSt)
  | 0, _, _, _ => none
  | n + 1, v0, v1, v2 => fM_laySums_l137b  (fun v0 v1 v2 => fM_laySums_l137  n v0 v1 v2) v0 v1 v2
def fM_laySums_l64b (K64 : zSt → Int32 → Option (zSt)) (sM : zSt) (x1 : Int32) : Option (zSt) :=
  if (zI sM 28) ≤ x1 then (zg (zix ((8 * (zI sM 26)) + 5) 32) <| zn ((zA sM 9 ((8 * (zI sM 26)) + 5).toNatClampNeg) : Int32) fun x1_1 => fM_laySums_l137  zF sM x1_1 0) else (zg (zix x1 10) <| zg (zix (zA sM 29 x1.toNatClampNeg) 3) <| zg (zix x1 10) <| zg (zix (zA sM 29 x1.toNatClampNeg) 3) <| zn (zsL sM 45 (zA sM 29 x1.toNatClampNeg).toNatClampNeg ((zL sM 45 (zA sM 29 x1.toNatClampNeg).toNatClampNeg) + ((zA sM 34 x1.toNatClampNeg).toInt64))) fun sM11 => zg (zix x1 10) <| zg (zix (zA sM11 29 x1.toNatClampNeg) 3) <| zg (zix x1 10) <| zg (zix (zA sM11 29 x1.toNatClampNeg) 3) <| zn (zsL sM11 46 (zA sM11 29 x1.toNatClampNeg).toNatClampNeg ((zL sM11 46 (zA sM11 29 x1.toNatClampNeg).toNatClampNeg) + ((zA sM11 35 x1.toNatClampNeg).toInt64))) fun sM12 => zn (x1 + 1 : Int32) fun x1_13 => K64 sM12 x1_13)
def fM_laySums_l64  : Nat → zSt → Int32 → Option (zSt)
  | 0, _, _ => none
  | n + 1, v0, v1 => fM_laySums_l64b  (fun v0 v1 => fM_laySums_l64  n v0 v1) v0 v1
def fM_laySums_l30b (K30 : zSt → Int32 → Option (zSt)) (sM : zSt) (x1 : Int32) : Option (zSt) :=
  if 3 ≤ x1 then (fM_laySums_l64  zF sM 0) else (zg (zix x1 3) <| zg (zix x1 3) <| zn (zsL sM 45 x1.toNatClampNeg ((-(zA sM 39 x1.toNatClampNeg)).toInt64)) fun sM14 => zg (zix x1 3) <| zn (zsL sM14 46 x1.toNatClampNeg 0) fun sM15 => zn (x1 + 1 : Int32) fun x1_16 => K30 sM15 x1_16)
def fM_laySums_l30  : Nat → zSt → Int32 → Option (zSt)
  | 0, _, _ => none
  | n + 1, v0, v1 => fM_laySums_l30b  (fun v0 v1 => fM_laySums_l30  n v0 v1) v0 v1
def fM_laySums_l2b (K2 : zSt → Int32 → Option (zSt)) (sM : zSt) (x1 : Int32) : Option (zSt) :=
  if 9 ≤ x1 then (fM_laySums_l30  zF sM 0) else (zg (zix x1 9) <| zn (zsL sM 47 x1.toNatClampNeg 0) fun sM17 => zg (zix x1 9) <| zn (zsL sM17 48 x1.toNatClampNeg 0) fun sM18 => zn (x1 + 1 : Int32) fun x1_19 => K2 sM18 x1_19)
def fM_laySums_l2  : Nat → zSt → Int32 → Option (zSt)
  | 0, _, _ => none
  | n + 1, v0, v1 => fM_laySums_l2b  (fun v0 v1 => fM_laySums_l2  n v0 v1) v0 v1
def fM_laySums (sM : zSt)  : Option (zSt) :=
  fM_laySums_l2  zF sM 0
/-! WhatWasHersModel.isPurse(I)Z -/
abbrev rmX12_isPurse : Room := { frames := 1, cells := 0, slots := 0, locals := 25 }
def fM_isPurse (sM : zSt) (a0 : Int32) : Option (Bool) :=
  Option.bind (fM_in (a0.toInt64) 0 2) fun y1 => some (y1)
/-! WhatWasHersModel.purse(II)J -/
abbrev rmX12_purse : Room := { frames := 6, cells := 0, slots := 0, locals := 148 }
def fM_purse_l42b (K42 : zSt → Int32 → Int32 → Int32 → Int32 → Option (Int64 × zSt)) (sM : zSt) (x1 : Int32) (x2 : Int32) (x3 : Int32) (x4 : Int32) : Option (Int64 × zSt) :=
  if (zI sM 28) ≤ x4 then (if x2 = 0 then (zg (zix x1 3) <| some ((zL sM 45 x1.toNatClampNeg), sM)) else (if x2 = 1 then (zg (zix x1 3) <| some ((zL sM 46 x1.toNatClampNeg), sM)) else (if x2 = 2 then (zg (zix x1 3) <| some (((zA sM 39 x1.toNatClampNeg).toInt64), sM)) else (some ((x3.toInt64), sM))))) else (zg (zix x4 10) <| if (zA sM 29 x4.toNatClampNeg) = x1 then (zn ((x3 + 1) : Int32) fun x3_8 => zn (x4 + 1 : Int32) fun x4_9 => K42 sM x1 x2 x3_8 x4_9) else (zn ((x3 + 0) : Int32) fun x3_6 => zn (x4 + 1 : Int32) fun x4_7 => K42 sM x1 x2 x3_6 x4_7))
def fM_purse_l42  : Nat → zSt → Int32 → Int32 → Int32 → Int32 → Option (Int64 × zSt)
  | 0, _, _, _, _, _ => none
  | n + 1, v0, v1, v2, v3, v4 => fM_purse_l42b  (fun v0 v1 v2 v3 v4 => fM_purse_l42  n v0 v1 v2 v3 v4) v0 v1 v2 v3 v4
def fM_purse (sM : zSt) (a0 : Int32) (a1 : Int32) : Option (Int64 × zSt) :=
  zn (zsI sM 0 0) fun sM1 => Option.bind (fM_isPurse sM1 a0) fun y2 => if y2 = true then (Option.bind (fM_in (a1.toInt64) 0 3) fun y3 => if y3 = true then (Option.bind (fM_goAll sM1) fun y4 => Option.bind (fM_laySums y4) fun y5 => fM_purse_l42  zF y5 a0 a1 0 0) else (some ((-9000000000000000001), sM1))) else (some ((-9000000000000000001), sM1))
/-! WhatWasHersModel.fed(II)J -/
abbrev rmX12_fed : Room := { frames := 6, cells := 0, slots := 0, locals := 148 }
def fM_fed (sM : zSt) (a0 : Int32) (a1 : Int32) : Option (Int64 × zSt) :=
  zn (zsI sM 0 0) fun sM1 => Option.bind (fM_isPurse sM1 a0) fun y2 => if y2 = true then (Option.bind (fM_isPurse sM1 a1) fun y3 => if y3 = true then (if a0 = a1 then (some ((-9000000000000000001), sM1)) else (Option.bind (fM_goAll sM1) fun y4 => Option.bind (fM_laySums y4) fun y5 => zg (zix ((3 * a0) + a1) 9) <| some ((zL y5 47 ((3 * a0) + a1).toNatClampNeg), y5))) else (some ((-9000000000000000001), sM1))) else (some ((-9000000000000000001), sM1))
/-! WhatWasHersModel.minor(IIII)J -/
abbrev rmX12_minor : Room := { frames := 0, cells := 0, slots := 0, locals := 0 }
def fM_minor (sM : zSt) (a0 : Int32) (a1 : Int32) (a2 : Int32) (a3 : Int32) : Option (Int64) :=
  zg (zix ((3 * a0) + a2) 9) <| zg (zix ((3 * a1) + a3) 9) <| zg (zix ((3 * a0) + a3) 9) <| zg (zix ((3 * a1) + a2) 9) <| some ((((zL sM 52 ((3 * a0) + a2).toNatClampNeg) * (zL sM 52 ((3 * a1) + a3).toNatClampNeg)) - ((zL sM 52 ((3 * a0) + a3).toNatClampNeg) * (zL sM 52 ((3 * a1) + a2).toNatClampNeg))))
/-! WhatWasHersModel.determinant()J -/
abbrev rmX12_determinant : Room := { frames := 1, cells := 0, slots := 0, locals := 24 }
def fM_determinant (sM : zSt)  : Option (Int64) :=
  zg (zix 0 9) <| Option.bind (fM_minor sM 1 2 1 2) fun y1 => zg (zix 1 9) <| Option.bind (fM_minor sM 1 2 0 2) fun y2 => zg (zix 2 9) <| Option.bind (fM_minor sM 1 2 0 1) fun y3 => some (((((zL sM 52 (0 : Int32).toNatClampNeg) * y1) - ((zL sM 52 (1 : Int32).toNatClampNeg) * y2)) + ((zL sM 52 (2 : Int32).toNatClampNeg) * y3)))
/-! WhatWasHersModel.laySides()V -/
abbrev rmX12_laySides : Room := { frames := 0, cells := 0, slots := 0, locals := 0 }
def fM_laySides_l85b (K78 : zSt → Int32 → Option (zSt)) (K85 : zSt → Int32 → Int32 → Option (zSt)) (sM : zSt) (x1 : Int32) (x2 : Int32) : Option (zSt) :=
  if 3 ≤ x2 then (zn (x1 + 1 : Int32) fun x1_1 => K78 sM x1_1) else (zg (zix (4 * x1) 9) <| if x1 = x2 then (zg (zix (4 * x1) 9) <| zn (zsL sM 52 (4 * x1).toNatClampNeg ((zL sM 52 (4 * x1).toNatClampNeg) + 0)) fun sM4 => zn (x2 + 1 : Int32) fun x2_5 => K85 sM4 x1 x2_5) else (zg (zix ((3 * x2) + x1) 9) <| zg (zix (4 * x1) 9) <| zn (zsL sM 52 (4 * x1).toNatClampNeg ((zL sM 52 (4 * x1).toNatClampNeg) + (zL sM 47 ((3 * x2) + x1).toNatClampNeg))) fun sM2 => zn (x2 + 1 : Int32) fun x2_3 => K85 sM2 x1 x2_3))
def fM_laySides_l85 (K78 : zSt → Int32 → Option (zSt)) : Nat → zSt → Int32 → Int32 → Option (zSt)
  | 0, _, _, _ => none
  | n + 1, v0, v1, v2 => fM_laySides_l85b K78 (fun v0 v1 v2 => fM_laySides_l85 K78 n v0 v1 v2) v0 v1 v2
def fM_laySides_l78b (K78 : zSt → Int32 → Option (zSt)) (sM : zSt) (x1 : Int32) : Option (zSt) :=
  if 3 ≤ x1 then (some (sM)) else (fM_laySides_l85 K78 zF sM x1 0)
def fM_laySides_l78  : Nat → zSt → Int32 → Option (zSt)
  | 0, _, _ => none
  | n + 1, v0, v1 => fM_laySides_l78b  (fun v0 v1 => fM_laySides_l78  n v0 v1) v0 v1
def fM_laySides_l9b (K2 : zSt → Int32 → Option (zSt)) (K9 : zSt → Int32 → Int32 → Option (zSt)) (sM : zSt) (x1 : Int32) (x2 : Int32) : Option (zSt) :=
  if 3 ≤ x2 then (zn (x1 + 1 : Int32) fun x1_6 => K2 sM x1_6) else (if x1 = x2 then (zg (zix x1 3) <| if (zL sM 46 x1.toNatClampNeg) = 0 then (zg (zix ((3 * x1) + x2) 9) <| zn (zsL sM 52 ((3 * x1) + x2).toNatClampNeg 1) fun sM11 => zn (x2 + 1 : Int32) fun x2_12 => K9 sM11 x1 x2_12) else (zg (zix x1 3) <| zg (zix ((3 * x1) + x2) 9) <| zn (zsL sM 52 ((3 * x1) + x2).toNatClampNeg (zL sM 46 x1.toNatClampNeg)) fun sM9 => zn (x2 + 1 : Int32) fun x2_10 => K9 sM9 x1 x2_10)) else (zg (zix ((3 * x1) + x2) 9) <| zg (zix ((3 * x1) + x2) 9) <| zn (zsL sM 52 ((3 * x1) + x2).toNatClampNeg (-(zL sM 47 ((3 * x1) + x2).toNatClampNeg))) fun sM7 => zn (x2 + 1 : Int32) fun x2_8 => K9 sM7 x1 x2_8))
def fM_laySides_l9 (K2 : zSt → Int32 → Option (zSt)) : Nat → zSt → Int32 → Int32 → Option (zSt)
  | 0, _, _, _ => none
  | n + 1, v0, v1, v2 => fM_laySides_l9b K2 (fun v0 v1 v2 => fM_laySides_l9 K2 n v0 v1 v2) v0 v1 v2
def fM_laySides_l2b (K2 : zSt → Int32 → Option (zSt)) (sM : zSt) (x1 : Int32) : Option (zSt) :=
  if 3 ≤ x1 then (fM_laySides_l78  zF sM 0) else (fM_laySides_l9 K2 zF sM x1 0)
def fM_laySides_l2  : Nat → zSt → Int32 → Option (zSt)
  | 0, _, _ => none
  | n + 1, v0, v1 => fM_laySides_l2b  (fun v0 v1 => fM_laySides_l2  n v0 v1) v0 v1
def fM_laySides (sM : zSt)  : Option (zSt) :=
  fM_laySides_l2  zF sM 0
/-! WhatWasHersModel.layNets()V -/
abbrev rmX12_layNets : Room := { frames := 2, cells := 0, slots := 0, locals := 44 }
def fM_layNets_b193 (K119 : zSt → Int32 → Option (zSt)) (sM : zSt) (x1 : Int32) (t0 : Int64) (t1 : Int32) : Option (zSt) :=
  zg (zix x1 3) <| zg (zix t1 3) <| zn (zsL sM 50 t1.toNatClampNeg (t0 * (zL sM 51 x1.toNatClampNeg))) fun sM8 => zn (x1 + 1 : Int32) fun x1_9 => K119 sM8 x1_9
def fM_layNets_l130b (K119 : zSt → Int32 → Option (zSt)) (K130 : zSt → Int32 → Int32 → Option (zSt)) (sM : zSt) (x1 : Int32) (x2 : Int32) : Option (zSt) :=
  if 3 ≤ x2 then (Option.bind (fM_determinant sM) fun y6 => zg (zix x1 3) <| zn (zsL sM 51 x1.toNatClampNeg y6) fun sM7 => zg (zix x1 3) <| if (zL sM7 46 x1.toNatClampNeg) = 0 then (fM_layNets_b193 K119 sM7 x1 1 x1) else (zg (zix x1 3) <| fM_layNets_b193 K119 sM7 x1 (zL sM7 46 x1.toNatClampNeg) x1)) else (zg (zix x2 3) <| zg (zix ((3 * x2) + x1) 9) <| zn (zsL sM 52 ((3 * x2) + x1).toNatClampNeg (zL sM 45 x2.toNatClampNeg)) fun sM10 => zn (x2 + 1 : Int32) fun x2_11 => K130 sM10 x1 x2_11)
def fM_layNets_l130 (K119 : zSt → Int32 → Option (zSt)) : Nat → zSt → Int32 → Int32 → Option (zSt)
  | 0, _, _, _ => none
  | n + 1, v0, v1, v2 => fM_layNets_l130b K119 (fun v0 v1 v2 => fM_layNets_l130 K119 n v0 v1 v2) v0 v1 v2
def fM_layNets_l119b (K119 : zSt → Int32 → Option (zSt)) (sM : zSt) (x1 : Int32) : Option (zSt) :=
  if 3 ≤ x1 then (some (sM)) else (Option.bind (fM_laySides sM) fun y5 => fM_layNets_l130 K119 zF y5 x1 0)
def fM_layNets_l119  : Nat → zSt → Int32 → Option (zSt)
  | 0, _, _ => none
  | n + 1, v0, v1 => fM_layNets_l119b  (fun v0 v1 => fM_layNets_l119  n v0 v1) v0 v1
def fM_layNets_l48b (K29 : zSt → Int32 → Option (zSt)) (K48 : zSt → Int32 → Int32 → Option (zSt)) (sM : zSt) (x1 : Int32) (x2 : Int32) : Option (zSt) :=
  if 3 ≤ x2 then (zn (x1 + 1 : Int32) fun x1_14 => K29 sM x1_14) else (zg (zix x1 3) <| if x1 = x2 then (zg (zix x1 3) <| zn (zsL sM 50 x1.toNatClampNeg ((zL sM 50 x1.toNatClampNeg) + 0)) fun sM17 => zn (x2 + 1 : Int32) fun x2_18 => K48 sM17 x1 x2_18) else (zg (zix ((3 * x1) + x2) 9) <| zg (zix ((3 * x2) + x1) 9) <| zg (zix x1 3) <| zn (zsL sM 50 x1.toNatClampNeg ((zL sM 50 x1.toNatClampNeg) + ((zL sM 48 ((3 * x1) + x2).toNatClampNeg) - (zL sM 48 ((3 * x2) + x1).toNatClampNeg)))) fun sM15 => zn (x2 + 1 : Int32) fun x2_16 => K48 sM15 x1 x2_16))
def fM_layNets_l48 (K29 : zSt → Int32 → Option (zSt)) : Nat → zSt → Int32 → Int32 → Option (zSt)
  | 0, _, _, _ => none
  | n + 1, v0, v1, v2 => fM_layNets_l48b K29 (fun v0 v1 v2 => fM_layNets_l48 K29 n v0 v1 v2) v0 v1 v2
def fM_layNets_l29b (K29 : zSt → Int32 → Option (zSt)) (sM : zSt) (x1 : Int32) : Option (zSt) :=
  if 3 ≤ x1 then (some (sM)) else (zg (zix x1 3) <| zg (zix x1 3) <| zn (zsL sM 50 x1.toNatClampNeg (zL sM 45 x1.toNatClampNeg)) fun sM13 => fM_layNets_l48 K29 zF sM13 x1 0)
def fM_layNets_l29  : Nat → zSt → Int32 → Option (zSt)
  | 0, _, _ => none
  | n + 1, v0, v1 => fM_layNets_l29b  (fun v0 v1 => fM_layNets_l29  n v0 v1) v0 v1
def fM_layNets (sM : zSt)  : Option (zSt) :=
  Option.bind (fM_laySums sM) fun y1 => zg (zix ((8 * (zI y1 26)) + 5) 32) <| if (zA y1 9 ((8 * (zI y1 26)) + 5).toNatClampNeg) = 1 then (Option.bind (fM_laySides y1) fun y2 => Option.bind (fM_determinant y2) fun y3 => zn (zsJ y2 49 y3) fun sM4 => fM_layNets_l119  zF sM4 0) else (zn (zsJ y1 49 1) fun sM12 => fM_layNets_l29  zF sM12 0)
/-! WhatWasHersModel.partOf(JJI)J -/
abbrev rmX12_partOf : Room := { frames := 0, cells := 0, slots := 0, locals := 0 }
def fM_partOf_l17b (K17 : Int64 → Int64 → Int32 → Int64 → Int64 → Option (Int64))  (x0 : Int64) (x2 : Int64) (x4 : Int32) (x5 : Int64) (x7 : Int64) : Option (Int64) :=
  if x7 = 0 then (if x4 = 0 then (zg (zlz x5) <| some ((x0 / x5))) else (zg (zlz x5) <| some ((x2 / x5)))) else (zg (zlz x7) <| zn ((x5 - x5 / x7 * x7) : Int64) fun x9_1 => K17 x0 x2 x4 x7 x9_1)
def fM_partOf_l17  : Nat → Int64 → Int64 → Int32 → Int64 → Int64 → Option (Int64)
  | 0, _, _, _, _, _ => none
  | n + 1, v0, v1, v2, v3, v4 => fM_partOf_l17b  (fun v0 v1 v2 v3 v4 => fM_partOf_l17  n v0 v1 v2 v3 v4) v0 v1 v2 v3 v4
def fM_partOf  (a0 : Int64) (a1 : Int64) (a2 : Int32) : Option (Int64) :=
  if 0 ≤ a0 then (fM_partOf_l17  zF a0 a1 a2 a0 a1) else (zn ((-a0) : Int64) fun x5_2 => fM_partOf_l17  zF a0 a1 a2 x5_2 a1)
/-! WhatWasHersModel.owed(III)J -/
abbrev rmX12_owed : Room := { frames := 6, cells := 0, slots := 0, locals := 148 }
def fM_owed (sM : zSt) (a0 : Int32) (a1 : Int32) (a2 : Int32) : Option (Int64 × zSt) :=
  zn (zsI sM 0 0) fun sM1 => Option.bind (fM_isPurse sM1 a0) fun y2 => if y2 = true then (Option.bind (fM_isPurse sM1 a1) fun y3 => if y3 = true then (if a0 = a1 then (some ((-9000000000000000001), sM1)) else (Option.bind (fM_in (a2.toInt64) 0 1) fun y4 => if y4 = true then (if (zI sM1 5) = 0 then (some ((-9000000000000000002), sM1)) else (Option.bind (fM_goAll sM1) fun y5 => Option.bind (fM_layNets y5) fun y6 => zg (zix ((8 * (zI y6 26)) + 5) 32) <| if (zA y6 9 ((8 * (zI y6 26)) + 5).toNatClampNeg) = 1 then (zg (zix ((3 * a0) + a1) 9) <| zg (zix a1 3) <| Option.bind (fM_partOf ((zL y6 47 ((3 * a0) + a1).toNatClampNeg) * (zL y6 51 a1.toNatClampNeg)) (zJ y6 49) a2) fun y7 => some (y7, y6)) else (if a2 = 0 then (zg (zix ((3 * a0) + a1) 9) <| some ((zL y6 48 ((3 * a0) + a1).toNatClampNeg), y6)) else (some (1, y6))))) else (some ((-9000000000000000001), sM1)))) else (some ((-9000000000000000001), sM1))) else (some ((-9000000000000000001), sM1))
/-! WhatWasHersModel.net(II)J -/
abbrev rmX12_net : Room := { frames := 6, cells := 0, slots := 0, locals := 148 }
def fM_net (sM : zSt) (a0 : Int32) (a1 : Int32) : Option (Int64 × zSt) :=
  zn (zsI sM 0 0) fun sM1 => Option.bind (fM_isPurse sM1 a0) fun y2 => if y2 = true then (Option.bind (fM_in (a1.toInt64) 0 1) fun y3 => if y3 = true then (if (zI sM1 5) = 0 then (some ((-9000000000000000002), sM1)) else (Option.bind (fM_goAll sM1) fun y4 => Option.bind (fM_layNets y4) fun y5 => zg (zix a0 3) <| Option.bind (fM_partOf (zL y5 50 a0.toNatClampNeg) (zJ y5 49) a1) fun y6 => some (y6, y5))) else (some ((-9000000000000000001), sM1))) else (some ((-9000000000000000001), sM1))
/-! WhatWasHersModel.endOf(I)J -/
abbrev rmX12_endOf : Room := { frames := 0, cells := 0, slots := 0, locals := 0 }
def fM_endOf_b40  (sM : zSt) (t0 : Int64) (t1 : Int64) : Option (Int64) :=
  zg (zix 2 3) <| some ((t1 + (t0 * (zL sM 50 (2 : Int32).toNatClampNeg))))
def fM_endOf (sM : zSt) (a0 : Int32) : Option (Int64) :=
  zg (zix ((8 * (zI sM 26)) + 7) 32) <| zn (((zA sM 9 ((8 * (zI sM 26)) + 7).toNatClampNeg).toInt64) : Int64) fun x2_1 => zg (zix a0 3) <| if a0 = 0 then (fM_endOf_b40  sM x2_1 (100 * (zL sM 50 a0.toNatClampNeg))) else (fM_endOf_b40  sM (100 - x2_1) (100 * (zL sM 50 a0.toNatClampNeg)))
/-! WhatWasHersModel.end(II)J -/
abbrev rmX12_end : Room := { frames := 6, cells := 0, slots := 0, locals := 148 }
def fM_end (sM : zSt) (a0 : Int32) (a1 : Int32) : Option (Int64 × zSt) :=
  zn (zsI sM 0 0) fun sM1 => Option.bind (fM_in (a0.toInt64) 0 1) fun y2 => if y2 = true then (Option.bind (fM_in (a1.toInt64) 0 1) fun y3 => if y3 = true then (if (zI sM1 5) = 0 then (some ((-9000000000000000002), sM1)) else (Option.bind (fM_goAll sM1) fun y4 => Option.bind (fM_layNets y4) fun y5 => Option.bind (fM_endOf y5 a0) fun y6 => Option.bind (fM_partOf y6 (100 * (zJ y5 49)) a1) fun y7 => some (y7, y5))) else (some ((-9000000000000000001), sM1))) else (some ((-9000000000000000001), sM1))
/-! WhatWasHersModel.beside(III)J -/
abbrev rmX12_beside : Room := { frames := 5, cells := 0, slots := 0, locals := 128 }
def fM_beside (sM : zSt) (a0 : Int32) (a1 : Int32) (a2 : Int32) : Option (Int64 × zSt) :=
  zn (zsI sM 0 0) fun sM1 => if (zI sM1 5) = 0 then (some ((-9000000000000000002), sM1)) else (Option.bind (fM_in (a0.toInt64) 0 (((zI sM1 6) - 1).toInt64)) fun y2 => if y2 = true then (Option.bind (fM_in (a1.toInt64) 0 999) fun y3 => if y3 = true then (Option.bind (fM_in (a2.toInt64) 0 1) fun y4 => if y4 = true then (Option.bind (fM_goThrough sM1 999 (-1) a1 a0 (-1) (-1)) fun y5 => Option.bind (fM_layNets y5) fun y6 => Option.bind (fM_endOf y6 0) fun y7 => Option.bind (fM_partOf y7 (100 * (zJ y6 49)) a2) fun y8 => some (y8, y6)) else (some ((-9000000000000000001), sM1))) else (some ((-9000000000000000001), sM1))) else (some ((-9000000000000000001), sM1)))
/-! WhatWasHersModel.hangs()J -/
abbrev rmX12_hangs : Room := { frames := 6, cells := 0, slots := 0, locals := 148 }
def fM_hangs_b154 (K50 : zSt → Int64 → Int32 → Int64 → Int32 → Option (Int64 × zSt)) (sM : zSt) (x1 : Int64) (x4 : Int64) (x6 : Int32) (x8 : Int64) (t0 : Int32) : Option (Int64 × zSt) :=
  if x8 ≤ x4 then (zn (x6 + 1 : Int32) fun x6_14 => K50 sM x1 t0 x4 x6_14) else (zn (x6 + 1 : Int32) fun x6_15 => K50 sM x1 t0 x8 x6_15)
def fM_hangs_b138 (K50 : zSt → Int64 → Int32 → Int64 → Int32 → Option (Int64 × zSt)) (sM : zSt) (x1 : Int64) (x3 : Int32) (x4 : Int64) (x6 : Int32) (t0 : Int64) : Option (Int64 × zSt) :=
  if t0 ≤ x4 then (fM_hangs_b154 K50 sM x1 x4 x6 t0 x3) else (fM_hangs_b154 K50 sM x1 x4 x6 t0 x6)
def fM_hangs_l50b (K50 : zSt → Int64 → Int32 → Int64 → Int32 → Option (Int64 × zSt)) (sM : zSt) (x1 : Int64) (x3 : Int32) (x4 : Int64) (x6 : Int32) : Option (Int64 × zSt) :=
  if (zI sM 7) ≤ x6 then (some ((x3.toInt64), sM)) else (zg (zix (6 * x6) 180) <| zn ((zA sM 10 (6 * x6).toNatClampNeg) : Int32) fun x7_6 => if x7_6 = 0 then (zn (x6 + 1 : Int32) fun x6_7 => K50 sM x1 x3 x4 x6_7) else (if x7_6 = 1 then (zn (x6 + 1 : Int32) fun x6_8 => K50 sM x1 x3 x4 x6_8) else (if x7_6 = 5 then (zn (x6 + 1 : Int32) fun x6_9 => K50 sM x1 x3 x4 x6_9) else (Option.bind (fM_goThrough sM 999 x6 (-1) (-1) (-1) (-1)) fun y10 => Option.bind (fM_layNets y10) fun y11 => Option.bind (fM_endOf y11 0) fun y12 => zg (zlz (100 * (zJ y11 49))) <| zn (((y12 / (100 * (zJ y11 49))) - x1) : Int64) fun x8_13 => if 0 ≤ x8_13 then (fM_hangs_b138 K50 y11 x1 x3 x4 x6 x8_13) else (fM_hangs_b138 K50 y11 x1 x3 x4 x6 (-x8_13))))))
def fM_hangs_l50  : Nat → zSt → Int64 → Int32 → Int64 → Int32 → Option (Int64 × zSt)
  | 0, _, _, _, _, _ => none
  | n + 1, v0, v1, v2, v3, v4 => fM_hangs_l50b  (fun v0 v1 v2 v3 v4 => fM_hangs_l50  n v0 v1 v2 v3 v4) v0 v1 v2 v3 v4
def fM_hangs (sM : zSt)  : Option (Int64 × zSt) :=
  zn (zsI sM 0 0) fun sM1 => if (zI sM1 5) = 0 then (some ((-9000000000000000002), sM1)) else (Option.bind (fM_goAll sM1) fun y2 => Option.bind (fM_layNets y2) fun y3 => Option.bind (fM_endOf y3 0) fun y4 => zg (zlz (100 * (zJ y3 49))) <| zn ((y4 / (100 * (zJ y3 49))) : Int64) fun x1_5 => fM_hangs_l50  zF y3 x1_5 (-1000000) (-1) 0)
/-! WhatWasHersModel.isWished(IIII)Z -/
abbrev rmX12_isWished : Room := { frames := 5, cells := 0, slots := 0, locals := 128 }
def fM_isWished (sM : zSt) (a0 : Int32) (a1 : Int32) (a2 : Int32) (a3 : Int32) : Option (Bool × zSt) :=
  Option.bind (fM_goThrough sM 999 (-1) (-1) (-1) a0 a1) fun y1 => Option.bind (fM_layNets y1) fun y2 => Option.bind (fM_endOf y2 0) fun y3 => if y3 < (((a2.toInt64) * 100) * (zJ y2 49)) then (some (false, y2)) else (Option.bind (fM_endOf y2 1) fun y4 => if y4 < (((a3.toInt64) * 100) * (zJ y2 49)) then (some (false, y2)) else (some (true, y2)))
/-! WhatWasHersModel.beforehand(II)J -/
abbrev rmX12_beforehand : Room := { frames := 6, cells := 0, slots := 0, locals := 152 }
def fM_beforehand_l65b (K65 : zSt → Int32 → Int32 → Int32 → Option (Int64 × zSt)) (sM : zSt) (x1 : Int32) (x2 : Int32) (x3 : Int32) : Option (Int64 × zSt) :=
  if 15 ≤ x3 then (some ((-1000000), sM)) else (zg (znz 3) <| zg (znz 3) <| Option.bind (fM_isWished sM (x3 / 3) (x3 - x3 / 3 * 3) x1 x2) fun y5 => if y5.1 = true then (some ((x3.toInt64), y5.2)) else (zn (x3 + 1 : Int32) fun x3_6 => K65 y5.2 x1 x2 x3_6))
def fM_beforehand_l65  : Nat → zSt → Int32 → Int32 → Int32 → Option (Int64 × zSt)
  | 0, _, _, _, _ => none
  | n + 1, v0, v1, v2, v3 => fM_beforehand_l65b  (fun v0 v1 v2 v3 => fM_beforehand_l65  n v0 v1 v2 v3) v0 v1 v2 v3
def fM_beforehand (sM : zSt) (a0 : Int32) (a1 : Int32) : Option (Int64 × zSt) :=
  zn (zsI sM 0 0) fun sM1 => Option.bind (fM_in (a0.toInt64) (-9999) 9999) fun y2 => if y2 = true then (Option.bind (fM_in (a1.toInt64) (-9999) 9999) fun y3 => if y3 = true then (if (zI sM1 5) = 0 then (some ((-9000000000000000002), sM1)) else (Option.bind (fM_isWished sM1 (-1) (-1) a0 a1) fun y4 => if y4.1 = true then (some (15, y4.2)) else (fM_beforehand_l65  zF y4.2 a0 a1 0))) else (some ((-9000000000000000001), sM1))) else (some ((-9000000000000000001), sM1))
/-! WhatWasHersModel.isFed(I)Z -/
abbrev rmX12_isFed : Room := { frames := 0, cells := 0, slots := 0, locals := 0 }
def fM_isFed_b41 (K4 : zSt → Int32 → Int32 → Int32 → Option (Bool)) (sM : zSt) (x1 : Int32) (x3 : Int32) : Option (Bool) :=
  zn (x3 + 1 : Int32) fun x3_1 => K4 sM x1 1 x3_1
def fM_isFed_l4b (K4 : zSt → Int32 → Int32 → Int32 → Option (Bool)) (sM : zSt) (x1 : Int32) (x2 : Int32) (x3 : Int32) : Option (Bool) :=
  if (zI sM 40) ≤ x3 then (zg (zbo x2) <| some ((decide (x2 = 1)))) else (if x2 = 0 then (zg (zix x3 90) <| if (zA sM 41 x3.toNatClampNeg) = x1 then (zg (zix x3 90) <| zg (zix x1 10) <| if (zA sM 42 x3.toNatClampNeg) = (zA sM 29 x1.toNatClampNeg) then (zn (x3 + 1 : Int32) fun x3_3 => K4 sM x1 0 x3_3) else (fM_isFed_b41 K4 sM x1 x3)) else (zn (x3 + 1 : Int32) fun x3_2 => K4 sM x1 0 x3_2)) else (fM_isFed_b41 K4 sM x1 x3))
def fM_isFed_l4  : Nat → zSt → Int32 → Int32 → Int32 → Option (Bool)
  | 0, _, _, _, _ => none
  | n + 1, v0, v1, v2, v3 => fM_isFed_l4b  (fun v0 v1 v2 v3 => fM_isFed_l4  n v0 v1 v2 v3) v0 v1 v2 v3
def fM_isFed (sM : zSt) (a0 : Int32) : Option (Bool) :=
  fM_isFed_l4  zF sM a0 0 0
/-! WhatWasHersModel.kindOf(I)I -/
abbrev rmX12_kindOf : Room := { frames := 1, cells := 0, slots := 0, locals := 23 }
def fM_kindOf (sM : zSt) (a0 : Int32) : Option (Int32) :=
  zg (zix a0 10) <| if (zA sM 29 a0.toNatClampNeg) = 2 then (zg (zix a0 10) <| if (zA sM 37 a0.toNatClampNeg) = 4 then (some (5)) else (some (2))) else (Option.bind (fM_isFed sM a0) fun y1 => if y1 = true then (zg (zix a0 10) <| zg (zix a0 10) <| if (zA sM 30 a0.toNatClampNeg) = (zA sM 29 a0.toNatClampNeg) then (some (3)) else (some (4))) else (some (1)))
/-! WhatWasHersModel.isOf(II)Z -/
abbrev rmX12_isOf : Room := { frames := 1, cells := 0, slots := 0, locals := 25 }
def fM_isOf_b38   (x0 : Int32) (x1 : Int32) : Option (Bool) :=
  if x1 = 2 then (if x0 = 5 then (some (true)) else (some (false))) else (some (false))
def fM_isOf_b28   (x0 : Int32) (x1 : Int32) : Option (Bool) :=
  if x1 = 3 then (if x0 = 4 then (some (true)) else (fM_isOf_b38  x0 x1)) else (fM_isOf_b38  x0 x1)
def fM_isOf  (a0 : Int32) (a1 : Int32) : Option (Bool) :=
  if a1 = 0 then (some (true)) else (if a0 = a1 then (some (true)) else (if a1 = 1 then (Option.bind (fM_in (a0.toInt64) 3 4) fun y1 => if y1 = true then (some (true)) else (fM_isOf_b28  a0 a1)) else (fM_isOf_b28  a0 a1)))
/-! WhatWasHersModel.kind(I)J -/
abbrev rmX12_kind : Room := { frames := 6, cells := 0, slots := 0, locals := 148 }
def fM_kind (sM : zSt) (a0 : Int32) : Option (Int64 × zSt) :=
  zn (zsI sM 0 0) fun sM1 => Option.bind (fM_isThing sM1 a0) fun y2 => if y2 = true then (Option.bind (fM_goAll sM1) fun y3 => Option.bind (fM_kindOf y3 a0) fun y4 => some ((y4.toInt64), y3)) else (some ((-9000000000000000001), sM1))
/-! WhatWasHersModel.as(II)J -/
abbrev rmX12_as : Room := { frames := 6, cells := 0, slots := 0, locals := 148 }
def fM_as (sM : zSt) (a0 : Int32) (a1 : Int32) : Option (Int64 × zSt) :=
  zn (zsI sM 0 0) fun sM1 => Option.bind (fM_isThing sM1 a0) fun y2 => if y2 = true then (Option.bind (fM_in (a1.toInt64) 0 5) fun y3 => if y3 = true then (zn (zsI sM1 1 0) fun sM4 => Option.bind (fM_goAll sM4) fun y5 => Option.bind (fM_kindOf y5 a0) fun y6 => Option.bind (fM_isOf y6 a1) fun y7 => if y7 = true then (some ((a0.toInt64), y5)) else (Option.bind (fM_finding y5 3) fun y8 => some (y8.1, y8.2))) else (some ((-9000000000000000001), sM1))) else (some ((-9000000000000000001), sM1))
/-! WhatWasHersModel.began(I)V -/
abbrev rmX12_began : Room := { frames := 0, cells := 0, slots := 0, locals := 0 }
def fM_began (sM : zSt) (a0 : Int32) : Option (zSt) :=
  if 16 ≤ (zI sM 54) then (some (sM)) else (zg (zix (zI sM 54) 16) <| zn (zsA sM 53 (zI sM 54).toNatClampNeg a0) fun sM1 => zn (zsI sM1 54 ((zI sM1 54) + 1)) fun sM2 => some (sM2))
/-! WhatWasHersModel.commonSize(I)I -/
abbrev rmX12_commonSize : Room := { frames := 1, cells := 0, slots := 0, locals := 21 }
def fM_commonSize (sM : zSt) (a0 : Int32) : Option (Int32 × zSt) :=
  Option.bind (fM_began sM 14) fun y1 => Option.bind (fM_began y1 10) fun y2 => zg (zix a0 10) <| some ((3 * (zA y2 34 a0.toNatClampNeg)), y2)
/-! WhatWasHersModel.markOf(II)I -/
abbrev rmX12_markOf : Room := { frames := 2, cells := 0, slots := 0, locals := 46 }
def fM_markOf_b78  (sM : zSt) (x1 : Int32) (x2 : Int32) (t0 : Int32) (t1 : Int32) : Option (Int32 × zSt) :=
  zn ((t1 + t0) : Int32) fun x4_5 => if x2 = 5 then (Option.bind (fM_commonSize sM x1) fun y6 => some ((x4_5 + y6.1), y6.2)) else (some (x4_5, sM))
def fM_markOf_b66  (sM : zSt) (x1 : Int32) (x2 : Int32) (t0 : Int32) (t1 : Int32) : Option (Int32 × zSt) :=
  if x2 = 4 then (fM_markOf_b78  sM x1 x2 100 (t1 + t0)) else (fM_markOf_b78  sM x1 x2 0 (t1 + t0))
def fM_markOf_b42  (sM : zSt) (x1 : Int32) (x2 : Int32) (x3 : Int32) : Option (Int32 × zSt) :=
  Option.bind (fM_began sM 20) fun y4 => if x3 = 0 then (fM_markOf_b66  y4 x1 x2 0 x1) else (zg (zix x1 10) <| fM_markOf_b66  y4 x1 x2 (10 * (zA y4 29 x1.toNatClampNeg)) x1)
def fM_markOf_b26  (sM : zSt) (x1 : Int32) (x2 : Int32) : Option (Int32 × zSt) :=
  Option.bind (fM_isOf x2 1) fun y2 => zn ((zb y2) : Int32) fun x3_3 => if x3_3 = 0 then (fM_markOf_b42  sM x1 x2 x3_3) else (Option.bind (fM_began sM 21) fun y7 => fM_markOf_b42  y7 x1 x2 x3_3)
def fM_markOf_b10  (sM : zSt) (x1 : Int32) (x2 : Int32) : Option (Int32 × zSt) :=
  if x2 = 4 then (Option.bind (fM_began sM 23) fun y8 => fM_markOf_b26  y8 x1 x2) else (Option.bind (fM_began sM 22) fun y1 => fM_markOf_b26  y1 x1 x2)
def fM_markOf (sM : zSt) (a0 : Int32) (a1 : Int32) : Option (Int32 × zSt) :=
  if a1 = 4 then (fM_markOf_b10  sM a0 a1) else (if a1 = 5 then (fM_markOf_b10  sM a0 a1) else (fM_markOf_b26  sM a0 a1))
/-! WhatWasHersModel.sizeOf(II)I -/
abbrev rmX12_sizeOf : Room := { frames := 3, cells := 0, slots := 0, locals := 70 }
def fM_sizeOf_b83  (sM : zSt) (x2 : Int32) (t0 : Int32) (t1 : Int32) : Option (Int32 × zSt) :=
  zn ((t1 - t0) : Int32) fun x3_8 => if x2 = 4 then (some ((2 * x3_8), sM)) else (some (x3_8, sM))
def fM_sizeOf_b39  (sM : zSt) (x1 : Int32) (x2 : Int32) : Option (Int32 × zSt) :=
  Option.bind (fM_began sM 11) fun y3 => Option.bind (fM_began y3 10) fun y4 => zg (zix x1 10) <| Option.bind (fM_markOf y4 x1 x2) fun y5 => zn (((zA y4 34 x1.toNatClampNeg) + y5.1) : Int32) fun x3_6 => Option.bind (fM_isOf x2 3) fun y7 => if y7 = true then (Option.bind (fM_putsInto y5.2 x1) fun y9 => fM_sizeOf_b83  y5.2 x2 y9 x3_6) else (fM_sizeOf_b83  y5.2 x2 0 x3_6)
def fM_sizeOf_b25  (sM : zSt) (x1 : Int32) (x2 : Int32) : Option (Int32 × zSt) :=
  Option.bind (fM_isOf x2 3) fun y2 => if y2 = true then (Option.bind (fM_began sM 12) fun y10 => fM_sizeOf_b39  y10 x1 x2) else (fM_sizeOf_b39  sM x1 x2)
def fM_sizeOf (sM : zSt) (a0 : Int32) (a1 : Int32) : Option (Int32 × zSt) :=
  Option.bind (fM_isOf a1 2) fun y1 => if y1 = true then (Option.bind (fM_commonSize sM a0) fun y12 => some (y12.1, y12.2)) else (if a1 = 4 then (Option.bind (fM_began sM 13) fun y11 => fM_sizeOf_b25  y11 a0 a1) else (fM_sizeOf_b25  sM a0 a1))
/-! WhatWasHersModel.ask(II)J -/
abbrev rmX12_ask : Room := { frames := 6, cells := 0, slots := 0, locals := 148 }
def fM_ask (sM : zSt) (a0 : Int32) (a1 : Int32) : Option (Int64 × zSt) :=
  zn (zsI sM 0 0) fun sM1 => Option.bind (fM_isThing sM1 a0) fun y2 => if y2 = true then (Option.bind (fM_in (a1.toInt64) 0 1) fun y3 => if y3 = true then (zn (zsI sM1 54 0) fun sM4 => Option.bind (fM_goAll sM4) fun y5 => if a1 = 0 then (Option.bind (fM_kindOf y5 a0) fun y8 => Option.bind (fM_sizeOf y5 a0 y8) fun y9 => some ((y9.1.toInt64), y9.2)) else (Option.bind (fM_kindOf y5 a0) fun y6 => Option.bind (fM_markOf y5 a0 y6) fun y7 => some ((y7.1.toInt64), y7.2))) else (some ((-9000000000000000001), sM1))) else (some ((-9000000000000000001), sM1))
/-! WhatWasHersModel.trace(I)I -/
abbrev rmX12_trace : Room := { frames := 1, cells := 0, slots := 0, locals := 25 }
def fM_trace (sM : zSt) (a0 : Int32) : Option (Int32 × zSt) :=
  zn (zsI sM 0 0) fun sM1 => Option.bind (fM_in (a0.toInt64) 0 (((zI sM1 54) - 1).toInt64)) fun y2 => if y2 = true then (zg (zix a0 16) <| some ((zA sM1 53 a0.toNatClampNeg), sM1)) else (some ((-1000000), sM1))
/-! WhatWasHersModel.count(I)J -/
abbrev rmX12_count : Room := { frames := 6, cells := 0, slots := 0, locals := 148 }
def fM_count_l70b (K70 : zSt → Int32 → Int32 → Option (Int64 × zSt)) (sM : zSt) (x2 : Int32) (x3 : Int32) : Option (Int64 × zSt) :=
  if 8 ≤ x3 then (some ((x2.toInt64), sM)) else (zg (zix x3 8) <| if (zA sM 2 x3.toNatClampNeg) < 0 then (zn ((x2 + 0) : Int32) fun x2_4 => zn (x3 + 1 : Int32) fun x3_5 => K70 sM x2_4 x3_5) else (zn ((x2 + 1) : Int32) fun x2_6 => zn (x3 + 1 : Int32) fun x3_7 => K70 sM x2_6 x3_7))
def fM_count_l70  : Nat → zSt → Int32 → Int32 → Option (Int64 × zSt)
  | 0, _, _, _ => none
  | n + 1, v0, v1, v2 => fM_count_l70b  (fun v0 v1 v2 => fM_count_l70  n v0 v1 v2) v0 v1 v2
def fM_count (sM : zSt) (a0 : Int32) : Option (Int64 × zSt) :=
  zn (zsI sM 0 0) fun sM1 => Option.bind (fM_in (a0.toInt64) 0 6) fun y2 => if y2 = true then (Option.bind (fM_goAll sM1) fun y3 => if a0 = 0 then (fM_count_l70  zF y3 0 0) else (if a0 = 1 then (some (((zI y3 6).toInt64), y3)) else (if a0 = 2 then (some (((zI y3 7).toInt64), y3)) else (if a0 = 3 then (some (((zI y3 8).toInt64), y3)) else (if a0 = 4 then (some (((zI y3 40).toInt64), y3)) else (if a0 = 5 then (some (((zI y3 17).toInt64), y3)) else (if (zI y3 5) = 0 then (some ((-1000000), y3)) else (some (((zI y3 26).toInt64), y3))))))))) else (some ((-9000000000000000001), sM1))
/-! WhatWasHersModel.status()I -/
abbrev rmX12_status : Room := { frames := 0, cells := 0, slots := 0, locals := 0 }
def fM_status (sM : zSt)  : Option (Int32 × zSt) :=
  zn (zsI sM 0 0) fun sM1 => some ((zI sM1 1), sM1)
theorem rw_p_X12_111_M_M {x : zX} {G : zG} {ce sl pc : Nat} {lv : List (Nat × Value)} {st : List Value} {cc : ByteArray} {nL : Nat} {ret : Option FieldType} {rm : Room} {qM : Nat → Nat} {sM : zSt} {v : Int32} {α : Type} {o : α} {kk : zSt → Option α} (C : zC x G RX12 cc nL ret rm) (hd : decode cc pc = .ok (.putfield 111, 3)) (h : zn (zsI sM 1 v) kk = some o) (K : ∀ s' : zSt, kk s' = some o → zW x G ce sl (pc + 3) lv st (wdM G qM s')) : zW x G ce sl pc lv (.int v :: .ref (qM 0) :: st) (wdM G qM sM) := z_put C (Cn := RX12) (T := TX12) (N := 55) (ci := 11) (k := 1) (ty := .int) (w' := wdM G qM (zsI sM 1 v)) inzX12 tyX12 tyX12_ok nmX12 rfl (by decide) rw_u_961 (fun _ h => h) rfl 0 rfl (by decide +kernel) rfl rfl (Nat.le_of_ble_eq_true rfl) rfl hd (K _ h)
theorem rw_c_X12_118 {x : zX} {G : zG} {ce sl pc : Nat} {lv : List (Nat × Value)} {cc : ByteArray} {nL : Nat} {ret : Option FieldType} {rm : Room} {w w1 : va_W} {rest : List Value} {r : Option Value} {a0 : Int64} {a1 : Int64} {a2 : Int64} (C : zC x G RX12 cc nL ret rm) (hc : Ct (xl x) G yX12_in cX12_in 6 (some .boolean) rmX12_in [.long a0, .long a1, .long a2] w r w1) (hd : decode cc pc = .ok (.invokestatic 118, 3)) (hcat : (rest.map fun v => v.category).sum ≤ 8) (hrm : zRm rm rmX12_in 6 ce sl) (K : zW x G (ce + rmX12_in.cells) (sl + rmX12_in.slots) (pc + 3) lv (r.toList ++ rest) w1) : zW x G ce sl pc lv (.long a2 :: .long a1 :: .long a0 :: rest) w := z_callS C 3 rw_u_1136 rw_u_78 rw_u_1134 rw_u_1135 ⟨by decide, by decide, by decide +kernel⟩ hc rfl hd hcat hrm K
theorem rw_p_X12_107_M_M {x : zX} {G : zG} {ce sl pc : Nat} {lv : List (Nat × Value)} {st : List Value} {cc : ByteArray} {nL : Nat} {ret : Option FieldType} {rm : Room} {qM : Nat → Nat} {sM : zSt} {v : Int32} {α : Type} {o : α} {kk : zSt → Option α} (C : zC x G RX12 cc nL ret rm) (hd : decode cc pc = .ok (.putfield 107, 3)) (h : zn (zsI sM 0 v) kk = some o) (K : ∀ s' : zSt, kk s' = some o → zW x G ce sl (pc + 3) lv st (wdM G qM s')) : zW x G ce sl pc lv (.int v :: .ref (qM 0) :: st) (wdM G qM sM) := z_put C (Cn := RX12) (T := TX12) (N := 55) (ci := 11) (k := 0) (ty := .int) (w' := wdM G qM (zsI sM 0 v)) inzX12 tyX12 tyX12_ok nmX12 rfl (by decide) rw_u_960 (fun _ h => h) rfl 0 rfl (by decide +kernel) rfl rfl (Nat.le_of_ble_eq_true rfl) rfl hd (K _ h)
theorem rw_c_X12_122 {x : zX} {G : zG} {ce sl pc : Nat} {lv : List (Nat × Value)} {cc : ByteArray} {nL : Nat} {ret : Option FieldType} {rm : Room} {w w1 : va_W} {rest : List Value} {r : Option Value} {a0 : Int32} (C : zC x G RX12 cc nL ret rm) (hc : Ct (xl x) G yX12_isRow cX12_isRow 1 (some .boolean) rmX12_isRow [.int a0] w r w1) (hd : decode cc pc = .ok (.invokestatic 122, 3)) (hcat : (rest.map fun v => v.category).sum ≤ 8) (hrm : zRm rm rmX12_isRow 1 ce sl) (K : zW x G (ce + rmX12_isRow.cells) (sl + rmX12_isRow.slots) (pc + 3) lv (r.toList ++ rest) w1) : zW x G ce sl pc lv (.int a0 :: rest) w := z_callS C 1 rw_u_1132 rw_u_78 rw_u_1130 rw_u_1131 ⟨by decide, by decide, by decide +kernel⟩ hc rfl hd hcat hrm K
theorem rw_g_X12_9_M_M {x : zX} {G : zG} {ce sl pc : Nat} {lv : List (Nat × Value)} {st : List Value} {cc : ByteArray} {nL : Nat} {ret : Option FieldType} {rm : Room} {qM : Nat → Nat} {sM : zSt} (C : zC x G RX12 cc nL ret rm) (hd : decode cc pc = .ok (.getfield 9, 3)) (K : zW x G ce sl (pc + 3) lv (.ref (qM 3) :: st) (wdM G qM sM)) : zW x G ce sl pc lv (.ref (qM 0) :: st) (wdM G qM sM) := z_get C (Cn := RX12) (T := TX12) (N := 55) (ci := 11) (k := 2) inzX12 rfl (by decide) rw_u_962 (fun _ h => h) 0 rfl rfl hd K
theorem rw_s_M_M_2 {x : zX} {G : zG} {ce sl pc : Nat} {lv : List (Nat × Value)} {st : List Value} {cc : ByteArray} {nL : Nat} {ret : Option FieldType} {rm : Room} {own : String} {qM : Nat → Nat} {sM : zSt} {i : Int32} {v : Int32} {α : Type} {o : α} {kk : zSt → Option α} (C : zC x G own cc nL ret rm) (hd : decode cc pc = .ok (.iastore, 1)) (h : zg (zix i 8) (zn (zsA sM 2 i.toNatClampNeg v) kk) = some o) (K : ∀ s' : zSt, kk s' = some o → zW x G ce sl (pc + 1) lv st (wdM G qM s')) : zW x G ce sl pc lv (.int v :: .int i :: .ref (qM 3) :: st) (wdM G qM sM) := z_iast C (w' := wdM G qM (zsA sM 2 i.toNatClampNeg v)) 1 rfl rfl hd h (fun h => K _ h)
theorem rw_g_X12_13_M_M {x : zX} {G : zG} {ce sl pc : Nat} {lv : List (Nat × Value)} {st : List Value} {cc : ByteArray} {nL : Nat} {ret : Option FieldType} {rm : Room} {qM : Nat → Nat} {sM : zSt} (C : zC x G RX12 cc nL ret rm) (hd : decode cc pc = .ok (.getfield 13, 3)) (K : zW x G ce sl (pc + 3) lv (.ref (qM 4) :: st) (wdM G qM sM)) : zW x G ce sl pc lv (.ref (qM 0) :: st) (wdM G qM sM) := z_get C (Cn := RX12) (T := TX12) (N := 55) (ci := 11) (k := 3) inzX12 rfl (by decide) rw_u_963 (fun _ h => h) 0 rfl rfl hd K
theorem rw_s_M_M_3 {x : zX} {G : zG} {ce sl pc : Nat} {lv : List (Nat × Value)} {st : List Value} {cc : ByteArray} {nL : Nat} {ret : Option FieldType} {rm : Room} {own : String} {qM : Nat → Nat} {sM : zSt} {i : Int32} {v : Int32} {α : Type} {o : α} {kk : zSt → Option α} (C : zC x G own cc nL ret rm) (hd : decode cc pc = .ok (.iastore, 1)) (h : zg (zix i 8) (zn (zsA sM 3 i.toNatClampNeg v) kk) = some o) (K : ∀ s' : zSt, kk s' = some o → zW x G ce sl (pc + 1) lv st (wdM G qM s')) : zW x G ce sl pc lv (.int v :: .int i :: .ref (qM 4) :: st) (wdM G qM sM) := z_iast C (w' := wdM G qM (zsA sM 3 i.toNatClampNeg v)) 2 rfl rfl hd h (fun h => K _ h)
theorem rw_g_X12_16_M_M {x : zX} {G : zG} {ce sl pc : Nat} {lv : List (Nat × Value)} {st : List Value} {cc : ByteArray} {nL : Nat} {ret : Option FieldType} {rm : Room} {qM : Nat → Nat} {sM : zSt} (C : zC x G RX12 cc nL ret rm) (hd : decode cc pc = .ok (.getfield 16, 3)) (K : zW x G ce sl (pc + 3) lv (.ref (qM 5) :: st) (wdM G qM sM)) : zW x G ce sl pc lv (.ref (qM 0) :: st) (wdM G qM sM) := z_get C (Cn := RX12) (T := TX12) (N := 55) (ci := 11) (k := 4) inzX12 rfl (by decide) rw_u_964 (fun _ h => h) 0 rfl rfl hd K
theorem rw_s_M_M_4 {x : zX} {G : zG} {ce sl pc : Nat} {lv : List (Nat × Value)} {st : List Value} {cc : ByteArray} {nL : Nat} {ret : Option FieldType} {rm : Room} {own : String} {qM : Nat → Nat} {sM : zSt} {i : Int32} {v : Int32} {α : Type} {o : α} {kk : zSt → Option α} (C : zC x G own cc nL ret rm) (hd : decode cc pc = .ok (.iastore, 1)) (h : zg (zix i 320) (zn (zsA sM 4 i.toNatClampNeg v) kk) = some o) (K : ∀ s' : zSt, kk s' = some o → zW x G ce sl (pc + 1) lv st (wdM G qM s')) : zW x G ce sl pc lv (.int v :: .int i :: .ref (qM 5) :: st) (wdM G qM sM) := z_iast C (w' := wdM G qM (zsA sM 4 i.toNatClampNeg v)) 3 rfl rfl hd h (fun h => K _ h)
theorem rw_c_X12_130 {x : zX} {G : zG} {ce sl pc : Nat} {lv : List (Nat × Value)} {cc : ByteArray} {nL : Nat} {ret : Option FieldType} {rm : Room} {w w1 : va_W} {rest : List Value} {r : Option Value} {a0 : Int32} {b : Nat} {fs : List Value} (C : zC x G RX12 cc nL ret rm) (hc : Ct (xl x) G yX12_finding cX12_finding 2 (some .long) rmX12_finding [.ref b, .int a0] w r w1) (q0 : Nat) (he : w[q0]? = some (b, .inr (11, fs))) (hd : decode cc pc = .ok (.invokevirtual 130, 3)) (hcat : (rest.map fun v => v.category).sum ≤ 8) (hrm : zRm rm rmX12_finding 2 ce sl) (K : zW x G (ce + rmX12_finding.cells) (sl + rmX12_finding.slots) (pc + 3) lv (r.toList ++ rest) w1) : zW x G ce sl pc lv (.int a0 :: .ref b :: rest) w := z_callV C 1 rw_u_1142 rw_u_78 rw_u_1139 rw_u_1141 rw_u_33 ⟨by decide, by decide, by decide +kernel⟩ (T := TX12) (N := 55) rfl hc rfl q0 he hd hcat hrm K
theorem rw_l_M_M_2 {x : zX} {G : zG} {ce sl pc : Nat} {lv : List (Nat × Value)} {st : List Value} {cc : ByteArray} {nL : Nat} {ret : Option FieldType} {rm : Room} {own : String} {qM : Nat → Nat} {sM : zSt} {i : Int32} {α : Type} {o : α} {kk : Option α} (C : zC x G own cc nL ret rm) (hd : decode cc pc = .ok (.iaload, 1)) (h : zg (zix i 8) kk = some o) (K : kk = some o → zW x G ce sl (pc + 1) lv (.int (zA sM 2 i.toNatClampNeg) :: st) (wdM G qM sM)) : zW x G ce sl pc lv (.int i :: .ref (qM 3) :: st) (wdM G qM sM) := z_iald C 1 rfl hd h K
theorem rw_l_M_M_3 {x : zX} {G : zG} {ce sl pc : Nat} {lv : List (Nat × Value)} {st : List Value} {cc : ByteArray} {nL : Nat} {ret : Option FieldType} {rm : Room} {own : String} {qM : Nat → Nat} {sM : zSt} {i : Int32} {α : Type} {o : α} {kk : Option α} (C : zC x G own cc nL ret rm) (hd : decode cc pc = .ok (.iaload, 1)) (h : zg (zix i 8) kk = some o) (K : kk = some o → zW x G ce sl (pc + 1) lv (.int (zA sM 3 i.toNatClampNeg) :: st) (wdM G qM sM)) : zW x G ce sl pc lv (.int i :: .ref (qM 4) :: st) (wdM G qM sM) := z_iald C 2 rfl hd h K
theorem rw_l_M_M_4 {x : zX} {G : zG} {ce sl pc : Nat} {lv : List (Nat × Value)} {st : List Value} {cc : ByteArray} {nL : Nat} {ret : Option FieldType} {rm : Room} {own : String} {qM : Nat → Nat} {sM : zSt} {i : Int32} {α : Type} {o : α} {kk : Option α} (C : zC x G own cc nL ret rm) (hd : decode cc pc = .ok (.iaload, 1)) (h : zg (zix i 320) kk = some o) (K : kk = some o → zW x G ce sl (pc + 1) lv (.int (zA sM 4 i.toNatClampNeg) :: st) (wdM G qM sM)) : zW x G ce sl pc lv (.int i :: .ref (qM 5) :: st) (wdM G qM sM) := z_iald C 3 rfl hd h K
theorem rw_g_X12_136_M_M {x : zX} {G : zG} {ce sl pc : Nat} {lv : List (Nat × Value)} {st : List Value} {cc : ByteArray} {nL : Nat} {ret : Option FieldType} {rm : Room} {qM : Nat → Nat} {sM : zSt} (C : zC x G RX12 cc nL ret rm) (hd : decode cc pc = .ok (.getfield 136, 3)) (K : zW x G ce sl (pc + 3) lv (.int (zI sM 17) :: st) (wdM G qM sM)) : zW x G ce sl pc lv (.ref (qM 0) :: st) (wdM G qM sM) := z_get C (Cn := RX12) (T := TX12) (N := 55) (ci := 11) (k := 17) inzX12 rfl (by decide) rw_u_977 (fun _ h => h) 0 rfl rfl hd K
theorem rw_g_X12_31_M_M {x : zX} {G : zG} {ce sl pc : Nat} {lv : List (Nat × Value)} {st : List Value} {cc : ByteArray} {nL : Nat} {ret : Option FieldType} {rm : Room} {qM : Nat → Nat} {sM : zSt} (C : zC x G RX12 cc nL ret rm) (hd : decode cc pc = .ok (.getfield 31, 3)) (K : zW x G ce sl (pc + 3) lv (.ref (qM 17) :: st) (wdM G qM sM)) : zW x G ce sl pc lv (.ref (qM 0) :: st) (wdM G qM sM) := z_get C (Cn := RX12) (T := TX12) (N := 55) (ci := 11) (k := 16) inzX12 rfl (by decide) rw_u_976 (fun _ h => h) 0 rfl rfl hd K
theorem rw_s_M_M_16 {x : zX} {G : zG} {ce sl pc : Nat} {lv : List (Nat × Value)} {st : List Value} {cc : ByteArray} {nL : Nat} {ret : Option FieldType} {rm : Room} {own : String} {qM : Nat → Nat} {sM : zSt} {i : Int32} {v : Int32} {α : Type} {o : α} {kk : zSt → Option α} (C : zC x G own cc nL ret rm) (hd : decode cc pc = .ok (.iastore, 1)) (h : zg (zix i 500) (zn (zsA sM 16 i.toNatClampNeg v) kk) = some o) (K : ∀ s' : zSt, kk s' = some o → zW x G ce sl (pc + 1) lv st (wdM G qM s')) : zW x G ce sl pc lv (.int v :: .int i :: .ref (qM 17) :: st) (wdM G qM sM) := z_iast C (w' := wdM G qM (zsA sM 16 i.toNatClampNeg v)) 8 rfl rfl hd h (fun h => K _ h)
theorem rw_p_X12_136_M_M {x : zX} {G : zG} {ce sl pc : Nat} {lv : List (Nat × Value)} {st : List Value} {cc : ByteArray} {nL : Nat} {ret : Option FieldType} {rm : Room} {qM : Nat → Nat} {sM : zSt} {v : Int32} {α : Type} {o : α} {kk : zSt → Option α} (C : zC x G RX12 cc nL ret rm) (hd : decode cc pc = .ok (.putfield 136, 3)) (h : zn (zsI sM 17 v) kk = some o) (K : ∀ s' : zSt, kk s' = some o → zW x G ce sl (pc + 3) lv st (wdM G qM s')) : zW x G ce sl pc lv (.int v :: .ref (qM 0) :: st) (wdM G qM sM) := z_put C (Cn := RX12) (T := TX12) (N := 55) (ci := 11) (k := 17) (ty := .int) (w' := wdM G qM (zsI sM 17 v)) inzX12 tyX12 tyX12_ok nmX12 rfl (by decide) rw_u_977 (fun _ h => h) rfl 0 rfl (by decide +kernel) rfl rfl (Nat.le_of_ble_eq_true rfl) rfl hd (K _ h)
theorem rw_g_X12_143_M_M {x : zX} {G : zG} {ce sl pc : Nat} {lv : List (Nat × Value)} {st : List Value} {cc : ByteArray} {nL : Nat} {ret : Option FieldType} {rm : Room} {qM : Nat → Nat} {sM : zSt} (C : zC x G RX12 cc nL ret rm) (hd : decode cc pc = .ok (.getfield 143, 3)) (K : zW x G ce sl (pc + 3) lv (.int (zI sM 19) :: st) (wdM G qM sM)) : zW x G ce sl pc lv (.ref (qM 0) :: st) (wdM G qM sM) := z_get C (Cn := RX12) (T := TX12) (N := 55) (ci := 11) (k := 19) inzX12 rfl (by decide) rw_u_979 (fun _ h => h) 0 rfl rfl hd K
theorem rw_l_M_M_16 {x : zX} {G : zG} {ce sl pc : Nat} {lv : List (Nat × Value)} {st : List Value} {cc : ByteArray} {nL : Nat} {ret : Option FieldType} {rm : Room} {own : String} {qM : Nat → Nat} {sM : zSt} {i : Int32} {α : Type} {o : α} {kk : Option α} (C : zC x G own cc nL ret rm) (hd : decode cc pc = .ok (.iaload, 1)) (h : zg (zix i 500) kk = some o) (K : kk = some o → zW x G ce sl (pc + 1) lv (.int (zA sM 16 i.toNatClampNeg) :: st) (wdM G qM sM)) : zW x G ce sl pc lv (.int i :: .ref (qM 17) :: st) (wdM G qM sM) := z_iald C 8 rfl hd h K
theorem rw_g_X12_147_M_M {x : zX} {G : zG} {ce sl pc : Nat} {lv : List (Nat × Value)} {st : List Value} {cc : ByteArray} {nL : Nat} {ret : Option FieldType} {rm : Room} {qM : Nat → Nat} {sM : zSt} (C : zC x G RX12 cc nL ret rm) (hd : decode cc pc = .ok (.getfield 147, 3)) (K : zW x G ce sl (pc + 3) lv (.int (zI sM 20) :: st) (wdM G qM sM)) : zW x G ce sl pc lv (.ref (qM 0) :: st) (wdM G qM sM) := z_get C (Cn := RX12) (T := TX12) (N := 55) (ci := 11) (k := 20) inzX12 rfl (by decide) rw_u_980 (fun _ h => h) 0 rfl rfl hd K
theorem rw_c_X12_150 {x : zX} {G : zG} {ce sl pc : Nat} {lv : List (Nat × Value)} {cc : ByteArray} {nL : Nat} {ret : Option FieldType} {rm : Room} {w w1 : va_W} {rest : List Value} {r : Option Value} {a0 : Int32} {b : Nat} {fs : List Value} (C : zC x G RX12 cc nL ret rm) (hc : Ct (xl x) G yX12_byteAt cX12_byteAt 2 (some .int) rmX12_byteAt [.ref b, .int a0] w r w1) (q0 : Nat) (he : w[q0]? = some (b, .inr (11, fs))) (hd : decode cc pc = .ok (.invokevirtual 150, 3)) (hcat : (rest.map fun v => v.category).sum ≤ 8) (hrm : zRm rm rmX12_byteAt 2 ce sl) (K : zW x G (ce + rmX12_byteAt.cells) (sl + rmX12_byteAt.slots) (pc + 3) lv (r.toList ++ rest) w1) : zW x G ce sl pc lv (.int a0 :: .ref b :: rest) w := z_callV C 1 rw_u_1174 rw_u_78 rw_u_1171 rw_u_1173 rw_u_35 ⟨by decide, by decide, by decide +kernel⟩ (T := TX12) (N := 55) rfl hc rfl q0 he hd hcat hrm K
theorem rw_p_X12_147_M_M {x : zX} {G : zG} {ce sl pc : Nat} {lv : List (Nat × Value)} {st : List Value} {cc : ByteArray} {nL : Nat} {ret : Option FieldType} {rm : Room} {qM : Nat → Nat} {sM : zSt} {v : Int32} {α : Type} {o : α} {kk : zSt → Option α} (C : zC x G RX12 cc nL ret rm) (hd : decode cc pc = .ok (.putfield 147, 3)) (h : zn (zsI sM 20 v) kk = some o) (K : ∀ s' : zSt, kk s' = some o → zW x G ce sl (pc + 3) lv st (wdM G qM s')) : zW x G ce sl pc lv (.int v :: .ref (qM 0) :: st) (wdM G qM sM) := z_put C (Cn := RX12) (T := TX12) (N := 55) (ci := 11) (k := 20) (ty := .int) (w' := wdM G qM (zsI sM 20 v)) inzX12 tyX12 tyX12_ok nmX12 rfl (by decide) rw_u_980 (fun _ h => h) rfl 0 rfl (by decide +kernel) rfl rfl (Nat.le_of_ble_eq_true rfl) rfl hd (K _ h)
theorem rw_p_X12_154_M_M {x : zX} {G : zG} {ce sl pc : Nat} {lv : List (Nat × Value)} {st : List Value} {cc : ByteArray} {nL : Nat} {ret : Option FieldType} {rm : Room} {qM : Nat → Nat} {sM : zSt} {v : Int32} {α : Type} {o : α} {kk : zSt → Option α} (C : zC x G RX12 cc nL ret rm) (hd : decode cc pc = .ok (.putfield 154, 3)) (h : zn (zsI sM 22 v) kk = some o) (K : ∀ s' : zSt, kk s' = some o → zW x G ce sl (pc + 3) lv st (wdM G qM s')) : zW x G ce sl pc lv (.int v :: .ref (qM 0) :: st) (wdM G qM sM) := z_put C (Cn := RX12) (T := TX12) (N := 55) (ci := 11) (k := 22) (ty := .int) (w' := wdM G qM (zsI sM 22 v)) inzX12 tyX12 tyX12_ok nmX12 rfl (by decide) rw_u_982 (fun _ h => h) rfl 0 rfl (by decide +kernel) rfl rfl (Nat.le_of_ble_eq_true rfl) rfl hd (K _ h)
theorem rw_c_X12_160 {x : zX} {G : zG} {ce sl pc : Nat} {lv : List (Nat × Value)} {cc : ByteArray} {nL : Nat} {ret : Option FieldType} {rm : Room} {w w1 : va_W} {rest : List Value} {r : Option Value} {a0 : Int32} (C : zC x G RX12 cc nL ret rm) (hc : Ct (xl x) G yX12_isLetter cX12_isLetter 1 (some .boolean) rmX12_isLetter [.int a0] w r w1) (hd : decode cc pc = .ok (.invokestatic 160, 3)) (hcat : (rest.map fun v => v.category).sum ≤ 8) (hrm : zRm rm rmX12_isLetter 1 ce sl) (K : zW x G (ce + rmX12_isLetter.cells) (sl + rmX12_isLetter.slots) (pc + 3) lv (r.toList ++ rest) w1) : zW x G ce sl pc lv (.int a0 :: rest) w := z_callS C 1 rw_u_1178 rw_u_78 rw_u_1176 rw_u_1177 ⟨by decide, by decide, by decide +kernel⟩ hc rfl hd hcat hrm K
theorem rw_c_X12_163 {x : zX} {G : zG} {ce sl pc : Nat} {lv : List (Nat × Value)} {cc : ByteArray} {nL : Nat} {ret : Option FieldType} {rm : Room} {w w1 : va_W} {rest : List Value} {r : Option Value} {a0 : Int32} (C : zC x G RX12 cc nL ret rm) (hc : Ct (xl x) G yX12_isFigure cX12_isFigure 1 (some .boolean) rmX12_isFigure [.int a0] w r w1) (hd : decode cc pc = .ok (.invokestatic 163, 3)) (hcat : (rest.map fun v => v.category).sum ≤ 8) (hrm : zRm rm rmX12_isFigure 1 ce sl) (K : zW x G (ce + rmX12_isFigure.cells) (sl + rmX12_isFigure.slots) (pc + 3) lv (r.toList ++ rest) w1) : zW x G ce sl pc lv (.int a0 :: rest) w := z_callS C 1 rw_u_1181 rw_u_78 rw_u_1179 rw_u_1180 ⟨by decide, by decide, by decide +kernel⟩ hc rfl hd hcat hrm K
theorem rw_p_X12_157_M_M {x : zX} {G : zG} {ce sl pc : Nat} {lv : List (Nat × Value)} {st : List Value} {cc : ByteArray} {nL : Nat} {ret : Option FieldType} {rm : Room} {qM : Nat → Nat} {sM : zSt} {v : Int32} {α : Type} {o : α} {kk : zSt → Option α} (C : zC x G RX12 cc nL ret rm) (hd : decode cc pc = .ok (.putfield 157, 3)) (h : zn (zsI sM 21 v) kk = some o) (K : ∀ s' : zSt, kk s' = some o → zW x G ce sl (pc + 3) lv st (wdM G qM s')) : zW x G ce sl pc lv (.int v :: .ref (qM 0) :: st) (wdM G qM sM) := z_put C (Cn := RX12) (T := TX12) (N := 55) (ci := 11) (k := 21) (ty := .int) (w' := wdM G qM (zsI sM 21 v)) inzX12 tyX12 tyX12_ok nmX12 rfl (by decide) rw_u_981 (fun _ h => h) rfl 0 rfl (by decide +kernel) rfl rfl (Nat.le_of_ble_eq_true rfl) rfl hd (K _ h)
theorem rw_p_X12_166_M_M {x : zX} {G : zG} {ce sl pc : Nat} {lv : List (Nat × Value)} {st : List Value} {cc : ByteArray} {nL : Nat} {ret : Option FieldType} {rm : Room} {qM : Nat → Nat} {sM : zSt} {v : Int32} {α : Type} {o : α} {kk : zSt → Option α} (C : zC x G RX12 cc nL ret rm) (hd : decode cc pc = .ok (.putfield 166, 3)) (h : zn (zsI sM 23 v) kk = some o) (K : ∀ s' : zSt, kk s' = some o → zW x G ce sl (pc + 3) lv st (wdM G qM s')) : zW x G ce sl pc lv (.int v :: .ref (qM 0) :: st) (wdM G qM sM) := z_put C (Cn := RX12) (T := TX12) (N := 55) (ci := 11) (k := 23) (ty := .int) (w' := wdM G qM (zsI sM 23 v)) inzX12 tyX12 tyX12_ok nmX12 rfl (by decide) rw_u_983 (fun _ h => h) rfl 0 rfl (by decide +kernel) rfl rfl (Nat.le_of_ble_eq_true rfl) rfl hd (K _ h)
theorem rw_g_X12_154_M_M {x : zX} {G : zG} {ce sl pc : Nat} {lv : List (Nat × Value)} {st : List Value} {cc : ByteArray} {nL : Nat} {ret : Option FieldType} {rm : Room} {qM : Nat → Nat} {sM : zSt} (C : zC x G RX12 cc nL ret rm) (hd : decode cc pc = .ok (.getfield 154, 3)) (K : zW x G ce sl (pc + 3) lv (.int (zI sM 22) :: st) (wdM G qM sM)) : zW x G ce sl pc lv (.ref (qM 0) :: st) (wdM G qM sM) := z_get C (Cn := RX12) (T := TX12) (N := 55) (ci := 11) (k := 22) inzX12 rfl (by decide) rw_u_982 (fun _ h => h) 0 rfl rfl hd K
theorem rw_g_X12_169_M_M {x : zX} {G : zG} {ce sl pc : Nat} {lv : List (Nat × Value)} {st : List Value} {cc : ByteArray} {nL : Nat} {ret : Option FieldType} {rm : Room} {qM : Nat → Nat} {sM : zSt} (C : zC x G RX12 cc nL ret rm) (hd : decode cc pc = .ok (.getfield 169, 3)) (K : zW x G ce sl (pc + 3) lv (.int (zI sM 24) :: st) (wdM G qM sM)) : zW x G ce sl pc lv (.ref (qM 0) :: st) (wdM G qM sM) := z_get C (Cn := RX12) (T := TX12) (N := 55) (ci := 11) (k := 24) inzX12 rfl (by decide) rw_u_984 (fun _ h => h) 0 rfl rfl hd K
theorem rw_p_X12_169_M_M {x : zX} {G : zG} {ce sl pc : Nat} {lv : List (Nat × Value)} {st : List Value} {cc : ByteArray} {nL : Nat} {ret : Option FieldType} {rm : Room} {qM : Nat → Nat} {sM : zSt} {v : Int32} {α : Type} {o : α} {kk : zSt → Option α} (C : zC x G RX12 cc nL ret rm) (hd : decode cc pc = .ok (.putfield 169, 3)) (h : zn (zsI sM 24 v) kk = some o) (K : ∀ s' : zSt, kk s' = some o → zW x G ce sl (pc + 3) lv st (wdM G qM s')) : zW x G ce sl pc lv (.int v :: .ref (qM 0) :: st) (wdM G qM sM) := z_put C (Cn := RX12) (T := TX12) (N := 55) (ci := 11) (k := 24) (ty := .int) (w' := wdM G qM (zsI sM 24 v)) inzX12 tyX12 tyX12_ok nmX12 rfl (by decide) rw_u_984 (fun _ h => h) rfl 0 rfl (by decide +kernel) rfl rfl (Nat.le_of_ble_eq_true rfl) rfl hd (K _ h)
theorem rw_p_X12_172_M_M {x : zX} {G : zG} {ce sl pc : Nat} {lv : List (Nat × Value)} {st : List Value} {cc : ByteArray} {nL : Nat} {ret : Option FieldType} {rm : Room} {qM : Nat → Nat} {sM : zSt} {v : Int32} {α : Type} {o : α} {kk : zSt → Option α} (C : zC x G RX12 cc nL ret rm) (hd : decode cc pc = .ok (.putfield 172, 3)) (h : zn (zsI sM 25 v) kk = some o) (K : ∀ s' : zSt, kk s' = some o → zW x G ce sl (pc + 3) lv st (wdM G qM s')) : zW x G ce sl pc lv (.int v :: .ref (qM 0) :: st) (wdM G qM sM) := z_put C (Cn := RX12) (T := TX12) (N := 55) (ci := 11) (k := 25) (ty := .int) (w' := wdM G qM (zsI sM 25 v)) inzX12 tyX12 tyX12_ok nmX12 rfl (by decide) rw_u_985 (fun _ h => h) rfl 0 rfl (by decide +kernel) rfl rfl (Nat.le_of_ble_eq_true rfl) rfl hd (K _ h)
theorem rw_c_X12_179 {x : zX} {G : zG} {ce sl pc : Nat} {lv : List (Nat × Value)} {cc : ByteArray} {nL : Nat} {ret : Option FieldType} {rm : Room} {w w1 : va_W} {rest : List Value} {r : Option Value}  {b : Nat} {fs : List Value} (C : zC x G RX12 cc nL ret rm) (hc : Ct (xl x) G yX12_next cX12_next 2 none rmX12_next [.ref b] w r w1) (q0 : Nat) (he : w[q0]? = some (b, .inr (11, fs))) (hd : decode cc pc = .ok (.invokevirtual 179, 3)) (hcat : (rest.map fun v => v.category).sum ≤ 8) (hrm : zRm rm rmX12_next 2 ce sl) (K : zW x G (ce + rmX12_next.cells) (sl + rmX12_next.slots) (pc + 3) lv (r.toList ++ rest) w1) : zW x G ce sl pc lv (.ref b :: rest) w := z_callV C 0 rw_u_1170 rw_u_78 rw_u_1167 rw_u_1169 rw_u_34 ⟨by decide, by decide, by decide +kernel⟩ (T := TX12) (N := 55) rfl hc rfl q0 he hd hcat hrm K
theorem rw_c_X12_175 {x : zX} {G : zG} {ce sl pc : Nat} {lv : List (Nat × Value)} {cc : ByteArray} {nL : Nat} {ret : Option FieldType} {rm : Room} {w w1 : va_W} {rest : List Value} {r : Option Value} {a0 : Int32} {b : Nat} {fs : List Value} (C : zC x G RX12 cc nL ret rm) (hc : Ct (xl x) G yX12_bad cX12_bad 2 none rmX12_bad [.ref b, .int a0] w r w1) (q0 : Nat) (he : w[q0]? = some (b, .inr (11, fs))) (hd : decode cc pc = .ok (.invokevirtual 175, 3)) (hcat : (rest.map fun v => v.category).sum ≤ 8) (hrm : zRm rm rmX12_bad 2 ce sl) (K : zW x G (ce + rmX12_bad.cells) (sl + rmX12_bad.slots) (pc + 3) lv (r.toList ++ rest) w1) : zW x G ce sl pc lv (.int a0 :: .ref b :: rest) w := z_callV C 1 rw_u_1194 rw_u_78 rw_u_1191 rw_u_1193 rw_u_38 ⟨by decide, by decide, by decide +kernel⟩ (T := TX12) (N := 55) rfl hc rfl q0 he hd hcat hrm K
theorem rw_g_X12_166_M_M {x : zX} {G : zG} {ce sl pc : Nat} {lv : List (Nat × Value)} {st : List Value} {cc : ByteArray} {nL : Nat} {ret : Option FieldType} {rm : Room} {qM : Nat → Nat} {sM : zSt} (C : zC x G RX12 cc nL ret rm) (hd : decode cc pc = .ok (.getfield 166, 3)) (K : zW x G ce sl (pc + 3) lv (.int (zI sM 23) :: st) (wdM G qM sM)) : zW x G ce sl pc lv (.ref (qM 0) :: st) (wdM G qM sM) := z_get C (Cn := RX12) (T := TX12) (N := 55) (ci := 11) (k := 23) inzX12 rfl (by decide) rw_u_983 (fun _ h => h) 0 rfl rfl hd K
theorem rw_g_X12_157_M_M {x : zX} {G : zG} {ce sl pc : Nat} {lv : List (Nat × Value)} {st : List Value} {cc : ByteArray} {nL : Nat} {ret : Option FieldType} {rm : Room} {qM : Nat → Nat} {sM : zSt} (C : zC x G RX12 cc nL ret rm) (hd : decode cc pc = .ok (.getfield 157, 3)) (K : zW x G ce sl (pc + 3) lv (.int (zI sM 21) :: st) (wdM G qM sM)) : zW x G ce sl pc lv (.ref (qM 0) :: st) (wdM G qM sM) := z_get C (Cn := RX12) (T := TX12) (N := 55) (ci := 11) (k := 21) inzX12 rfl (by decide) rw_u_981 (fun _ h => h) 0 rfl rfl hd K
theorem rw_c_X12_182 {x : zX} {G : zG} {ce sl pc : Nat} {lv : List (Nat × Value)} {cc : ByteArray} {nL : Nat} {ret : Option FieldType} {rm : Room} {w w1 : va_W} {rest : List Value} {r : Option Value} {a0 : Int32} {b : Nat} {fs : List Value} (C : zC x G RX12 cc nL ret rm) (hc : Ct (xl x) G yX12_must cX12_must 2 none rmX12_must [.ref b, .int a0] w r w1) (q0 : Nat) (he : w[q0]? = some (b, .inr (11, fs))) (hd : decode cc pc = .ok (.invokevirtual 182, 3)) (hcat : (rest.map fun v => v.category).sum ≤ 8) (hrm : zRm rm rmX12_must 2 ce sl) (K : zW x G (ce + rmX12_must.cells) (sl + rmX12_must.slots) (pc + 3) lv (r.toList ++ rest) w1) : zW x G ce sl pc lv (.int a0 :: .ref b :: rest) w := z_callV C 1 rw_u_1198 rw_u_78 rw_u_1195 rw_u_1197 rw_u_39 ⟨by decide, by decide, by decide +kernel⟩ (T := TX12) (N := 55) rfl hc rfl q0 he hd hcat hrm K
theorem rw_c_X12_186 {x : zX} {G : zG} {ce sl pc : Nat} {lv : List (Nat × Value)} {cc : ByteArray} {nL : Nat} {ret : Option FieldType} {rm : Room} {w w1 : va_W} {rest : List Value} {r : Option Value}  {b : Nat} {fs : List Value} (C : zC x G RX12 cc nL ret rm) (hc : Ct (xl x) G yX12_word cX12_word 4 (some .long) rmX12_word [.ref b] w r w1) (q0 : Nat) (he : w[q0]? = some (b, .inr (11, fs))) (hd : decode cc pc = .ok (.invokevirtual 186, 3)) (hcat : (rest.map fun v => v.category).sum ≤ 8) (hrm : zRm rm rmX12_word 4 ce sl) (K : zW x G (ce + rmX12_word.cells) (sl + rmX12_word.slots) (pc + 3) lv (r.toList ++ rest) w1) : zW x G ce sl pc lv (.ref b :: rest) w := z_callV C 0 rw_u_1189 rw_u_78 rw_u_1186 rw_u_1188 rw_u_37 ⟨by decide, by decide, by decide +kernel⟩ (T := TX12) (N := 55) rfl hc rfl q0 he hd hcat hrm K
theorem rw_g_X12_192_M_M {x : zX} {G : zG} {ce sl pc : Nat} {lv : List (Nat × Value)} {st : List Value} {cc : ByteArray} {nL : Nat} {ret : Option FieldType} {rm : Room} {qM : Nat → Nat} {sM : zSt} (C : zC x G RX12 cc nL ret rm) (hd : decode cc pc = .ok (.getfield 192, 3)) (K : zW x G ce sl (pc + 3) lv (.int (zI sM 11) :: st) (wdM G qM sM)) : zW x G ce sl pc lv (.ref (qM 0) :: st) (wdM G qM sM) := z_get C (Cn := RX12) (T := TX12) (N := 55) (ci := 11) (k := 11) inzX12 rfl (by decide) rw_u_971 (fun _ h => h) 0 rfl rfl hd K
theorem rw_g_X12_25_M_M {x : zX} {G : zG} {ce sl pc : Nat} {lv : List (Nat × Value)} {st : List Value} {cc : ByteArray} {nL : Nat} {ret : Option FieldType} {rm : Room} {qM : Nat → Nat} {sM : zSt} (C : zC x G RX12 cc nL ret rm) (hd : decode cc pc = .ok (.getfield 25, 3)) (K : zW x G ce sl (pc + 3) lv (.ref (qM 15) :: st) (wdM G qM sM)) : zW x G ce sl pc lv (.ref (qM 0) :: st) (wdM G qM sM) := z_get C (Cn := RX12) (T := TX12) (N := 55) (ci := 11) (k := 14) inzX12 rfl (by decide) rw_u_974 (fun _ h => h) 0 rfl rfl hd K
theorem rw_c_X12_201 {x : zX} {G : zG} {ce sl pc : Nat} {lv : List (Nat × Value)} {cc : ByteArray} {nL : Nat} {ret : Option FieldType} {rm : Room} {w w1 : va_W} {rest : List Value} {r : Option Value} {a0 : Int64} {a1 : Int64} {a2 : Int64} {a3 : Int64} {a4 : Int64} {b : Nat} {fs : List Value} (C : zC x G RX12 cc nL ret rm) (hc : Ct (xl x) G yX12_oneOf cX12_oneOf 14 (some .int) rmX12_oneOf [.ref b, .long a0, .long a1, .long a2, .long a3, .long a4] w r w1) (q0 : Nat) (he : w[q0]? = some (b, .inr (11, fs))) (hd : decode cc pc = .ok (.invokevirtual 201, 3)) (hcat : (rest.map fun v => v.category).sum ≤ 8) (hrm : zRm rm rmX12_oneOf 14 ce sl) (K : zW x G (ce + rmX12_oneOf.cells) (sl + rmX12_oneOf.slots) (pc + 3) lv (r.toList ++ rest) w1) : zW x G ce sl pc lv (.long a4 :: .long a3 :: .long a2 :: .long a1 :: .long a0 :: .ref b :: rest) w := z_callV C 5 rw_u_1205 rw_u_78 rw_u_1202 rw_u_1204 rw_u_40 ⟨by decide, by decide, by decide +kernel⟩ (T := TX12) (N := 55) rfl hc rfl q0 he hd hcat hrm K
theorem rw_s_M_M_14 {x : zX} {G : zG} {ce sl pc : Nat} {lv : List (Nat × Value)} {st : List Value} {cc : ByteArray} {nL : Nat} {ret : Option FieldType} {rm : Room} {own : String} {qM : Nat → Nat} {sM : zSt} {i : Int32} {v : Int32} {α : Type} {o : α} {kk : zSt → Option α} (C : zC x G own cc nL ret rm) (hd : decode cc pc = .ok (.iastore, 1)) (h : zg (zix i 32) (zn (zsA sM 14 i.toNatClampNeg v) kk) = some o) (K : ∀ s' : zSt, kk s' = some o → zW x G ce sl (pc + 1) lv st (wdM G qM s')) : zW x G ce sl pc lv (.int v :: .int i :: .ref (qM 15) :: st) (wdM G qM sM) := z_iast C (w' := wdM G qM (zsA sM 14 i.toNatClampNeg v)) 6 rfl rfl hd h (fun h => K _ h)
theorem rw_c_X12_221 {x : zX} {G : zG} {ce sl pc : Nat} {lv : List (Nat × Value)} {cc : ByteArray} {nL : Nat} {ret : Option FieldType} {rm : Room} {w w1 : va_W} {rest : List Value} {r : Option Value} {a0 : Int32} {a1 : Int32} {b : Nat} {fs : List Value} (C : zC x G RX12 cc nL ret rm) (hc : Ct (xl x) G yX12_numberIn cX12_numberIn 5 (some .int) rmX12_numberIn [.ref b, .int a0, .int a1] w r w1) (q0 : Nat) (he : w[q0]? = some (b, .inr (11, fs))) (hd : decode cc pc = .ok (.invokevirtual 221, 3)) (hcat : (rest.map fun v => v.category).sum ≤ 8) (hrm : zRm rm rmX12_numberIn 5 ce sl) (K : zW x G (ce + rmX12_numberIn.cells) (sl + rmX12_numberIn.slots) (pc + 3) lv (r.toList ++ rest) w1) : zW x G ce sl pc lv (.int a1 :: .int a0 :: .ref b :: rest) w := z_callV C 2 rw_u_1217 rw_u_78 rw_u_1214 rw_u_1216 rw_u_41 ⟨by decide, by decide, by decide +kernel⟩ (T := TX12) (N := 55) rfl hc rfl q0 he hd hcat hrm K
theorem rw_c_X12_225 {x : zX} {G : zG} {ce sl pc : Nat} {lv : List (Nat × Value)} {cc : ByteArray} {nL : Nat} {ret : Option FieldType} {rm : Room} {w w1 : va_W} {rest : List Value} {r : Option Value}  {b : Nat} {fs : List Value} (C : zC x G RX12 cc nL ret rm) (hc : Ct (xl x) G yX12_mustEnd cX12_mustEnd 1 none rmX12_mustEnd [.ref b] w r w1) (q0 : Nat) (he : w[q0]? = some (b, .inr (11, fs))) (hd : decode cc pc = .ok (.invokevirtual 225, 3)) (hcat : (rest.map fun v => v.category).sum ≤ 8) (hrm : zRm rm rmX12_mustEnd 1 ce sl) (K : zW x G (ce + rmX12_mustEnd.cells) (sl + rmX12_mustEnd.slots) (pc + 3) lv (r.toList ++ rest) w1) : zW x G ce sl pc lv (.ref b :: rest) w := z_callV C 0 rw_u_1221 rw_u_78 rw_u_1218 rw_u_1220 rw_u_42 ⟨by decide, by decide, by decide +kernel⟩ (T := TX12) (N := 55) rfl hc rfl q0 he hd hcat hrm K
theorem rw_p_X12_192_M_M {x : zX} {G : zG} {ce sl pc : Nat} {lv : List (Nat × Value)} {st : List Value} {cc : ByteArray} {nL : Nat} {ret : Option FieldType} {rm : Room} {qM : Nat → Nat} {sM : zSt} {v : Int32} {α : Type} {o : α} {kk : zSt → Option α} (C : zC x G RX12 cc nL ret rm) (hd : decode cc pc = .ok (.putfield 192, 3)) (h : zn (zsI sM 11 v) kk = some o) (K : ∀ s' : zSt, kk s' = some o → zW x G ce sl (pc + 3) lv st (wdM G qM s')) : zW x G ce sl pc lv (.int v :: .ref (qM 0) :: st) (wdM G qM sM) := z_put C (Cn := RX12) (T := TX12) (N := 55) (ci := 11) (k := 11) (ty := .int) (w' := wdM G qM (zsI sM 11 v)) inzX12 tyX12 tyX12_ok nmX12 rfl (by decide) rw_u_971 (fun _ h => h) rfl 0 rfl (by decide +kernel) rfl rfl (Nat.le_of_ble_eq_true rfl) rfl hd (K _ h)
theorem rw_g_X12_28_M_M {x : zX} {G : zG} {ce sl pc : Nat} {lv : List (Nat × Value)} {st : List Value} {cc : ByteArray} {nL : Nat} {ret : Option FieldType} {rm : Room} {qM : Nat → Nat} {sM : zSt} (C : zC x G RX12 cc nL ret rm) (hd : decode cc pc = .ok (.getfield 28, 3)) (K : zW x G ce sl (pc + 3) lv (.ref (qM 16) :: st) (wdM G qM sM)) : zW x G ce sl pc lv (.ref (qM 0) :: st) (wdM G qM sM) := z_get C (Cn := RX12) (T := TX12) (N := 55) (ci := 11) (k := 15) inzX12 rfl (by decide) rw_u_975 (fun _ h => h) 0 rfl rfl hd K
theorem rw_g_X12_250_M_M {x : zX} {G : zG} {ce sl pc : Nat} {lv : List (Nat × Value)} {st : List Value} {cc : ByteArray} {nL : Nat} {ret : Option FieldType} {rm : Room} {qM : Nat → Nat} {sM : zSt} (C : zC x G RX12 cc nL ret rm) (hd : decode cc pc = .ok (.getfield 250, 3)) (K : zW x G ce sl (pc + 3) lv (.int (zI sM 13) :: st) (wdM G qM sM)) : zW x G ce sl pc lv (.ref (qM 0) :: st) (wdM G qM sM) := z_get C (Cn := RX12) (T := TX12) (N := 55) (ci := 11) (k := 13) inzX12 rfl (by decide) rw_u_973 (fun _ h => h) 0 rfl rfl hd K
theorem rw_s_M_M_15 {x : zX} {G : zG} {ce sl pc : Nat} {lv : List (Nat × Value)} {st : List Value} {cc : ByteArray} {nL : Nat} {ret : Option FieldType} {rm : Room} {own : String} {qM : Nat → Nat} {sM : zSt} {i : Int32} {v : Int32} {α : Type} {o : α} {kk : zSt → Option α} (C : zC x G own cc nL ret rm) (hd : decode cc pc = .ok (.iastore, 1)) (h : zg (zix i 180) (zn (zsA sM 15 i.toNatClampNeg v) kk) = some o) (K : ∀ s' : zSt, kk s' = some o → zW x G ce sl (pc + 1) lv st (wdM G qM s')) : zW x G ce sl pc lv (.int v :: .int i :: .ref (qM 16) :: st) (wdM G qM sM) := z_iast C (w' := wdM G qM (zsA sM 15 i.toNatClampNeg v)) 7 rfl rfl hd h (fun h => K _ h)
theorem rw_l_M_M_15 {x : zX} {G : zG} {ce sl pc : Nat} {lv : List (Nat × Value)} {st : List Value} {cc : ByteArray} {nL : Nat} {ret : Option FieldType} {rm : Room} {own : String} {qM : Nat → Nat} {sM : zSt} {i : Int32} {α : Type} {o : α} {kk : Option α} (C : zC x G own cc nL ret rm) (hd : decode cc pc = .ok (.iaload, 1)) (h : zg (zix i 180) kk = some o) (K : kk = some o → zW x G ce sl (pc + 1) lv (.int (zA sM 15 i.toNatClampNeg) :: st) (wdM G qM sM)) : zW x G ce sl pc lv (.int i :: .ref (qM 16) :: st) (wdM G qM sM) := z_iald C 7 rfl hd h K
theorem rw_c_X12_253 {x : zX} {G : zG} {ce sl pc : Nat} {lv : List (Nat × Value)} {cc : ByteArray} {nL : Nat} {ret : Option FieldType} {rm : Room} {w w1 : va_W} {rest : List Value} {r : Option Value}  {b : Nat} {fs : List Value} (C : zC x G RX12 cc nL ret rm) (hc : Ct (xl x) G yX12_kindOfWord cX12_kindOfWord 3 (some .int) rmX12_kindOfWord [.ref b] w r w1) (q0 : Nat) (he : w[q0]? = some (b, .inr (11, fs))) (hd : decode cc pc = .ok (.invokevirtual 253, 3)) (hcat : (rest.map fun v => v.category).sum ≤ 8) (hrm : zRm rm rmX12_kindOfWord 3 ce sl) (K : zW x G (ce + rmX12_kindOfWord.cells) (sl + rmX12_kindOfWord.slots) (pc + 3) lv (r.toList ++ rest) w1) : zW x G ce sl pc lv (.ref b :: rest) w := z_callV C 0 rw_u_1229 rw_u_78 rw_u_1226 rw_u_1228 rw_u_44 ⟨by decide, by decide, by decide +kernel⟩ (T := TX12) (N := 55) rfl hc rfl q0 he hd hcat hrm K
theorem rw_g_X12_257_M_M {x : zX} {G : zG} {ce sl pc : Nat} {lv : List (Nat × Value)} {st : List Value} {cc : ByteArray} {nL : Nat} {ret : Option FieldType} {rm : Room} {qM : Nat → Nat} {sM : zSt} (C : zC x G RX12 cc nL ret rm) (hd : decode cc pc = .ok (.getfield 257, 3)) (K : zW x G ce sl (pc + 3) lv (.int (zI sM 12) :: st) (wdM G qM sM)) : zW x G ce sl pc lv (.ref (qM 0) :: st) (wdM G qM sM) := z_get C (Cn := RX12) (T := TX12) (N := 55) (ci := 11) (k := 12) inzX12 rfl (by decide) rw_u_972 (fun _ h => h) 0 rfl rfl hd K
theorem rw_c_X12_260 {x : zX} {G : zG} {ce sl pc : Nat} {lv : List (Nat × Value)} {cc : ByteArray} {nL : Nat} {ret : Option FieldType} {rm : Room} {w w1 : va_W} {rest : List Value} {r : Option Value} {a0 : Int32} {a1 : Int32} {b : Nat} {fs : List Value} (C : zC x G RX12 cc nL ret rm) (hc : Ct (xl x) G yX12_readNumbers cX12_readNumbers 3 none rmX12_readNumbers [.ref b, .int a0, .int a1] w r w1) (q0 : Nat) (he : w[q0]? = some (b, .inr (11, fs))) (hd : decode cc pc = .ok (.invokevirtual 260, 3)) (hcat : (rest.map fun v => v.category).sum ≤ 8) (hrm : zRm rm rmX12_readNumbers 3 ce sl) (K : zW x G (ce + rmX12_readNumbers.cells) (sl + rmX12_readNumbers.slots) (pc + 3) lv (r.toList ++ rest) w1) : zW x G ce sl pc lv (.int a1 :: .int a0 :: .ref b :: rest) w := z_callV C 2 rw_u_1240 rw_u_78 rw_u_1237 rw_u_1239 rw_u_45 ⟨by decide, by decide, by decide +kernel⟩ (T := TX12) (N := 55) rfl hc rfl q0 he hd hcat hrm K
theorem rw_p_X12_257_M_M {x : zX} {G : zG} {ce sl pc : Nat} {lv : List (Nat × Value)} {st : List Value} {cc : ByteArray} {nL : Nat} {ret : Option FieldType} {rm : Room} {qM : Nat → Nat} {sM : zSt} {v : Int32} {α : Type} {o : α} {kk : zSt → Option α} (C : zC x G RX12 cc nL ret rm) (hd : decode cc pc = .ok (.putfield 257, 3)) (h : zn (zsI sM 12 v) kk = some o) (K : ∀ s' : zSt, kk s' = some o → zW x G ce sl (pc + 3) lv st (wdM G qM s')) : zW x G ce sl pc lv (.int v :: .ref (qM 0) :: st) (wdM G qM sM) := z_put C (Cn := RX12) (T := TX12) (N := 55) (ci := 11) (k := 12) (ty := .int) (w' := wdM G qM (zsI sM 12 v)) inzX12 tyX12 tyX12_ok nmX12 rfl (by decide) rw_u_972 (fun _ h => h) rfl 0 rfl (by decide +kernel) rfl rfl (Nat.le_of_ble_eq_true rfl) rfl hd (K _ h)
theorem rw_p_X12_250_M_M {x : zX} {G : zG} {ce sl pc : Nat} {lv : List (Nat × Value)} {st : List Value} {cc : ByteArray} {nL : Nat} {ret : Option FieldType} {rm : Room} {qM : Nat → Nat} {sM : zSt} {v : Int32} {α : Type} {o : α} {kk : zSt → Option α} (C : zC x G RX12 cc nL ret rm) (hd : decode cc pc = .ok (.putfield 250, 3)) (h : zn (zsI sM 13 v) kk = some o) (K : ∀ s' : zSt, kk s' = some o → zW x G ce sl (pc + 3) lv st (wdM G qM s')) : zW x G ce sl pc lv (.int v :: .ref (qM 0) :: st) (wdM G qM sM) := z_put C (Cn := RX12) (T := TX12) (N := 55) (ci := 11) (k := 13) (ty := .int) (w' := wdM G qM (zsI sM 13 v)) inzX12 tyX12 tyX12_ok nmX12 rfl (by decide) rw_u_973 (fun _ h => h) rfl 0 rfl (by decide +kernel) rfl rfl (Nat.le_of_ble_eq_true rfl) rfl hd (K _ h)
theorem rw_p_X12_143_M_M {x : zX} {G : zG} {ce sl pc : Nat} {lv : List (Nat × Value)} {st : List Value} {cc : ByteArray} {nL : Nat} {ret : Option FieldType} {rm : Room} {qM : Nat → Nat} {sM : zSt} {v : Int32} {α : Type} {o : α} {kk : zSt → Option α} (C : zC x G RX12 cc nL ret rm) (hd : decode cc pc = .ok (.putfield 143, 3)) (h : zn (zsI sM 19 v) kk = some o) (K : ∀ s' : zSt, kk s' = some o → zW x G ce sl (pc + 3) lv st (wdM G qM s')) : zW x G ce sl pc lv (.int v :: .ref (qM 0) :: st) (wdM G qM sM) := z_put C (Cn := RX12) (T := TX12) (N := 55) (ci := 11) (k := 19) (ty := .int) (w' := wdM G qM (zsI sM 19 v)) inzX12 tyX12 tyX12_ok nmX12 rfl (by decide) rw_u_979 (fun _ h => h) rfl 0 rfl (by decide +kernel) rfl rfl (Nat.le_of_ble_eq_true rfl) rfl hd (K _ h)
theorem rw_c_X12_264 {x : zX} {G : zG} {ce sl pc : Nat} {lv : List (Nat × Value)} {cc : ByteArray} {nL : Nat} {ret : Option FieldType} {rm : Room} {w w1 : va_W} {rest : List Value} {r : Option Value}  {b : Nat} {fs : List Value} (C : zC x G RX12 cc nL ret rm) (hc : Ct (xl x) G yX12_readLaw cX12_readLaw 3 none rmX12_readLaw [.ref b] w r w1) (q0 : Nat) (he : w[q0]? = some (b, .inr (11, fs))) (hd : decode cc pc = .ok (.invokevirtual 264, 3)) (hcat : (rest.map fun v => v.category).sum ≤ 8) (hrm : zRm rm rmX12_readLaw 3 ce sl) (K : zW x G (ce + rmX12_readLaw.cells) (sl + rmX12_readLaw.slots) (pc + 3) lv (r.toList ++ rest) w1) : zW x G ce sl pc lv (.ref b :: rest) w := z_callV C 0 rw_u_1185 rw_u_78 rw_u_1182 rw_u_1184 rw_u_36 ⟨by decide, by decide, by decide +kernel⟩ (T := TX12) (N := 55) rfl hc rfl q0 he hd hcat hrm K
theorem rw_p_X12_275_M_M {x : zX} {G : zG} {ce sl pc : Nat} {lv : List (Nat × Value)} {st : List Value} {cc : ByteArray} {nL : Nat} {ret : Option FieldType} {rm : Room} {qM : Nat → Nat} {sM : zSt} {v : Int32} {α : Type} {o : α} {kk : zSt → Option α} (C : zC x G RX12 cc nL ret rm) (hd : decode cc pc = .ok (.putfield 275, 3)) (hn : narrow .boolean (.int v) = .int v) (hf : fits .boolean (.int v) = true) (h : zn (zsI sM 5 v) kk = some o) (K : ∀ s' : zSt, kk s' = some o → zW x G ce sl (pc + 3) lv st (wdM G qM s')) : zW x G ce sl pc lv (.int v :: .ref (qM 0) :: st) (wdM G qM sM) := z_put C (Cn := RX12) (T := TX12) (N := 55) (ci := 11) (k := 5) (ty := .boolean) (w' := wdM G qM (zsI sM 5 v)) inzX12 tyX12 tyX12_ok nmX12 rfl (by decide) rw_u_965 (fun _ h => h) rfl 0 rfl (by decide +kernel) hn hf (Nat.le_of_ble_eq_true rfl) rfl hd (K _ h)
theorem rw_p_X12_279_M_M {x : zX} {G : zG} {ce sl pc : Nat} {lv : List (Nat × Value)} {st : List Value} {cc : ByteArray} {nL : Nat} {ret : Option FieldType} {rm : Room} {qM : Nat → Nat} {sM : zSt} {v : Int32} {α : Type} {o : α} {kk : zSt → Option α} (C : zC x G RX12 cc nL ret rm) (hd : decode cc pc = .ok (.putfield 279, 3)) (h : zn (zsI sM 6 v) kk = some o) (K : ∀ s' : zSt, kk s' = some o → zW x G ce sl (pc + 3) lv st (wdM G qM s')) : zW x G ce sl pc lv (.int v :: .ref (qM 0) :: st) (wdM G qM sM) := z_put C (Cn := RX12) (T := TX12) (N := 55) (ci := 11) (k := 6) (ty := .int) (w' := wdM G qM (zsI sM 6 v)) inzX12 tyX12 tyX12_ok nmX12 rfl (by decide) rw_u_966 (fun _ h => h) rfl 0 rfl (by decide +kernel) rfl rfl (Nat.le_of_ble_eq_true rfl) rfl hd (K _ h)
theorem rw_p_X12_282_M_M {x : zX} {G : zG} {ce sl pc : Nat} {lv : List (Nat × Value)} {st : List Value} {cc : ByteArray} {nL : Nat} {ret : Option FieldType} {rm : Room} {qM : Nat → Nat} {sM : zSt} {v : Int32} {α : Type} {o : α} {kk : zSt → Option α} (C : zC x G RX12 cc nL ret rm) (hd : decode cc pc = .ok (.putfield 282, 3)) (h : zn (zsI sM 7 v) kk = some o) (K : ∀ s' : zSt, kk s' = some o → zW x G ce sl (pc + 3) lv st (wdM G qM s')) : zW x G ce sl pc lv (.int v :: .ref (qM 0) :: st) (wdM G qM sM) := z_put C (Cn := RX12) (T := TX12) (N := 55) (ci := 11) (k := 7) (ty := .int) (w' := wdM G qM (zsI sM 7 v)) inzX12 tyX12 tyX12_ok nmX12 rfl (by decide) rw_u_967 (fun _ h => h) rfl 0 rfl (by decide +kernel) rfl rfl (Nat.le_of_ble_eq_true rfl) rfl hd (K _ h)
theorem rw_p_X12_285_M_M {x : zX} {G : zG} {ce sl pc : Nat} {lv : List (Nat × Value)} {st : List Value} {cc : ByteArray} {nL : Nat} {ret : Option FieldType} {rm : Room} {qM : Nat → Nat} {sM : zSt} {v : Int32} {α : Type} {o : α} {kk : zSt → Option α} (C : zC x G RX12 cc nL ret rm) (hd : decode cc pc = .ok (.putfield 285, 3)) (h : zn (zsI sM 8 v) kk = some o) (K : ∀ s' : zSt, kk s' = some o → zW x G ce sl (pc + 3) lv st (wdM G qM s')) : zW x G ce sl pc lv (.int v :: .ref (qM 0) :: st) (wdM G qM sM) := z_put C (Cn := RX12) (T := TX12) (N := 55) (ci := 11) (k := 8) (ty := .int) (w' := wdM G qM (zsI sM 8 v)) inzX12 tyX12 tyX12_ok nmX12 rfl (by decide) rw_u_968 (fun _ h => h) rfl 0 rfl (by decide +kernel) rfl rfl (Nat.le_of_ble_eq_true rfl) rfl hd (K _ h)
theorem rw_g_X12_282_M_M {x : zX} {G : zG} {ce sl pc : Nat} {lv : List (Nat × Value)} {st : List Value} {cc : ByteArray} {nL : Nat} {ret : Option FieldType} {rm : Room} {qM : Nat → Nat} {sM : zSt} (C : zC x G RX12 cc nL ret rm) (hd : decode cc pc = .ok (.getfield 282, 3)) (K : zW x G ce sl (pc + 3) lv (.int (zI sM 7) :: st) (wdM G qM sM)) : zW x G ce sl pc lv (.ref (qM 0) :: st) (wdM G qM sM) := z_get C (Cn := RX12) (T := TX12) (N := 55) (ci := 11) (k := 7) inzX12 rfl (by decide) rw_u_967 (fun _ h => h) 0 rfl rfl hd K
theorem rw_g_X12_19_M_M {x : zX} {G : zG} {ce sl pc : Nat} {lv : List (Nat × Value)} {st : List Value} {cc : ByteArray} {nL : Nat} {ret : Option FieldType} {rm : Room} {qM : Nat → Nat} {sM : zSt} (C : zC x G RX12 cc nL ret rm) (hd : decode cc pc = .ok (.getfield 19, 3)) (K : zW x G ce sl (pc + 3) lv (.ref (qM 10) :: st) (wdM G qM sM)) : zW x G ce sl pc lv (.ref (qM 0) :: st) (wdM G qM sM) := z_get C (Cn := RX12) (T := TX12) (N := 55) (ci := 11) (k := 9) inzX12 rfl (by decide) rw_u_969 (fun _ h => h) 0 rfl rfl hd K
theorem rw_l_M_M_14 {x : zX} {G : zG} {ce sl pc : Nat} {lv : List (Nat × Value)} {st : List Value} {cc : ByteArray} {nL : Nat} {ret : Option FieldType} {rm : Room} {own : String} {qM : Nat → Nat} {sM : zSt} {i : Int32} {α : Type} {o : α} {kk : Option α} (C : zC x G own cc nL ret rm) (hd : decode cc pc = .ok (.iaload, 1)) (h : zg (zix i 32) kk = some o) (K : kk = some o → zW x G ce sl (pc + 1) lv (.int (zA sM 14 i.toNatClampNeg) :: st) (wdM G qM sM)) : zW x G ce sl pc lv (.int i :: .ref (qM 15) :: st) (wdM G qM sM) := z_iald C 6 rfl hd h K
theorem rw_s_M_M_9 {x : zX} {G : zG} {ce sl pc : Nat} {lv : List (Nat × Value)} {st : List Value} {cc : ByteArray} {nL : Nat} {ret : Option FieldType} {rm : Room} {own : String} {qM : Nat → Nat} {sM : zSt} {i : Int32} {v : Int32} {α : Type} {o : α} {kk : zSt → Option α} (C : zC x G own cc nL ret rm) (hd : decode cc pc = .ok (.iastore, 1)) (h : zg (zix i 32) (zn (zsA sM 9 i.toNatClampNeg v) kk) = some o) (K : ∀ s' : zSt, kk s' = some o → zW x G ce sl (pc + 1) lv st (wdM G qM s')) : zW x G ce sl pc lv (.int v :: .int i :: .ref (qM 10) :: st) (wdM G qM sM) := z_iast C (w' := wdM G qM (zsA sM 9 i.toNatClampNeg v)) 4 rfl rfl hd h (fun h => K _ h)
theorem rw_g_X12_22_M_M {x : zX} {G : zG} {ce sl pc : Nat} {lv : List (Nat × Value)} {st : List Value} {cc : ByteArray} {nL : Nat} {ret : Option FieldType} {rm : Room} {qM : Nat → Nat} {sM : zSt} (C : zC x G RX12 cc nL ret rm) (hd : decode cc pc = .ok (.getfield 22, 3)) (K : zW x G ce sl (pc + 3) lv (.ref (qM 11) :: st) (wdM G qM sM)) : zW x G ce sl pc lv (.ref (qM 0) :: st) (wdM G qM sM) := z_get C (Cn := RX12) (T := TX12) (N := 55) (ci := 11) (k := 10) inzX12 rfl (by decide) rw_u_970 (fun _ h => h) 0 rfl rfl hd K
theorem rw_s_M_M_10 {x : zX} {G : zG} {ce sl pc : Nat} {lv : List (Nat × Value)} {st : List Value} {cc : ByteArray} {nL : Nat} {ret : Option FieldType} {rm : Room} {own : String} {qM : Nat → Nat} {sM : zSt} {i : Int32} {v : Int32} {α : Type} {o : α} {kk : zSt → Option α} (C : zC x G own cc nL ret rm) (hd : decode cc pc = .ok (.iastore, 1)) (h : zg (zix i 180) (zn (zsA sM 10 i.toNatClampNeg v) kk) = some o) (K : ∀ s' : zSt, kk s' = some o → zW x G ce sl (pc + 1) lv st (wdM G qM s')) : zW x G ce sl pc lv (.int v :: .int i :: .ref (qM 11) :: st) (wdM G qM sM) := z_iast C (w' := wdM G qM (zsA sM 10 i.toNatClampNeg v)) 5 rfl rfl hd h (fun h => K _ h)
theorem rw_p_X12_270_M_M {x : zX} {G : zG} {ce sl pc : Nat} {lv : List (Nat × Value)} {st : List Value} {cc : ByteArray} {nL : Nat} {ret : Option FieldType} {rm : Room} {qM : Nat → Nat} {sM : zSt} {v : Int32} {α : Type} {o : α} {kk : zSt → Option α} (C : zC x G RX12 cc nL ret rm) (hd : decode cc pc = .ok (.putfield 270, 3)) (h : zn (zsI sM 18 v) kk = some o) (K : ∀ s' : zSt, kk s' = some o → zW x G ce sl (pc + 3) lv st (wdM G qM s')) : zW x G ce sl pc lv (.int v :: .ref (qM 0) :: st) (wdM G qM sM) := z_put C (Cn := RX12) (T := TX12) (N := 55) (ci := 11) (k := 18) (ty := .int) (w' := wdM G qM (zsI sM 18 v)) inzX12 tyX12 tyX12_ok nmX12 rfl (by decide) rw_u_978 (fun _ h => h) rfl 0 rfl (by decide +kernel) rfl rfl (Nat.le_of_ble_eq_true rfl) rfl hd (K _ h)
theorem rw_g_X12_172_M_M {x : zX} {G : zG} {ce sl pc : Nat} {lv : List (Nat × Value)} {st : List Value} {cc : ByteArray} {nL : Nat} {ret : Option FieldType} {rm : Room} {qM : Nat → Nat} {sM : zSt} (C : zC x G RX12 cc nL ret rm) (hd : decode cc pc = .ok (.getfield 172, 3)) (K : zW x G ce sl (pc + 3) lv (.int (zI sM 25) :: st) (wdM G qM sM)) : zW x G ce sl pc lv (.ref (qM 0) :: st) (wdM G qM sM) := z_get C (Cn := RX12) (T := TX12) (N := 55) (ci := 11) (k := 25) inzX12 rfl (by decide) rw_u_985 (fun _ h => h) 0 rfl rfl hd K
theorem rw_c_X12_267 {x : zX} {G : zG} {ce sl pc : Nat} {lv : List (Nat × Value)} {cc : ByteArray} {nL : Nat} {ret : Option FieldType} {rm : Room} {w w1 : va_W} {rest : List Value} {r : Option Value} {a0 : Int32} {b : Nat} {fs : List Value} (C : zC x G RX12 cc nL ret rm) (hc : Ct (xl x) G yX12_readEvent cX12_readEvent 5 none rmX12_readEvent [.ref b, .int a0] w r w1) (q0 : Nat) (he : w[q0]? = some (b, .inr (11, fs))) (hd : decode cc pc = .ok (.invokevirtual 267, 3)) (hcat : (rest.map fun v => v.category).sum ≤ 8) (hrm : zRm rm rmX12_readEvent 5 ce sl) (K : zW x G (ce + rmX12_readEvent.cells) (sl + rmX12_readEvent.slots) (pc + 3) lv (r.toList ++ rest) w1) : zW x G ce sl pc lv (.int a0 :: .ref b :: rest) w := z_callV C 1 rw_u_1225 rw_u_78 rw_u_1222 rw_u_1224 rw_u_43 ⟨by decide, by decide, by decide +kernel⟩ (T := TX12) (N := 55) rfl hc rfl q0 he hd hcat hrm K
theorem rw_g_X12_270_M_M {x : zX} {G : zG} {ce sl pc : Nat} {lv : List (Nat × Value)} {st : List Value} {cc : ByteArray} {nL : Nat} {ret : Option FieldType} {rm : Room} {qM : Nat → Nat} {sM : zSt} (C : zC x G RX12 cc nL ret rm) (hd : decode cc pc = .ok (.getfield 270, 3)) (K : zW x G ce sl (pc + 3) lv (.int (zI sM 18) :: st) (wdM G qM sM)) : zW x G ce sl pc lv (.ref (qM 0) :: st) (wdM G qM sM) := z_get C (Cn := RX12) (T := TX12) (N := 55) (ci := 11) (k := 18) inzX12 rfl (by decide) rw_u_978 (fun _ h => h) 0 rfl rfl hd K
theorem rw_g_X12_288_M_M {x : zX} {G : zG} {ce sl pc : Nat} {lv : List (Nat × Value)} {st : List Value} {cc : ByteArray} {nL : Nat} {ret : Option FieldType} {rm : Room} {qM : Nat → Nat} {sM : zSt} (C : zC x G RX12 cc nL ret rm) (hd : decode cc pc = .ok (.getfield 288, 3)) (K : zW x G ce sl (pc + 3) lv (.int (zI sM 26) :: st) (wdM G qM sM)) : zW x G ce sl pc lv (.ref (qM 0) :: st) (wdM G qM sM) := z_get C (Cn := RX12) (T := TX12) (N := 55) (ci := 11) (k := 26) inzX12 rfl (by decide) rw_u_986 (fun _ h => h) 0 rfl rfl hd K
theorem rw_g_X12_61_M_M {x : zX} {G : zG} {ce sl pc : Nat} {lv : List (Nat × Value)} {st : List Value} {cc : ByteArray} {nL : Nat} {ret : Option FieldType} {rm : Room} {qM : Nat → Nat} {sM : zSt} (C : zC x G RX12 cc nL ret rm) (hd : decode cc pc = .ok (.getfield 61, 3)) (K : zW x G ce sl (pc + 3) lv (.ref (qM 38) :: st) (wdM G qM sM)) : zW x G ce sl pc lv (.ref (qM 0) :: st) (wdM G qM sM) := z_get C (Cn := RX12) (T := TX12) (N := 55) (ci := 11) (k := 37) inzX12 rfl (by decide) rw_u_997 (fun _ h => h) 0 rfl rfl hd K
theorem rw_l_M_M_37 {x : zX} {G : zG} {ce sl pc : Nat} {lv : List (Nat × Value)} {st : List Value} {cc : ByteArray} {nL : Nat} {ret : Option FieldType} {rm : Room} {own : String} {qM : Nat → Nat} {sM : zSt} {i : Int32} {α : Type} {o : α} {kk : Option α} (C : zC x G own cc nL ret rm) (hd : decode cc pc = .ok (.iaload, 1)) (h : zg (zix i 10) kk = some o) (K : kk = some o → zW x G ce sl (pc + 1) lv (.int (zA sM 37 i.toNatClampNeg) :: st) (wdM G qM sM)) : zW x G ce sl pc lv (.int i :: .ref (qM 38) :: st) (wdM G qM sM) := z_iald C 18 rfl hd h K
theorem rw_l_M_M_9 {x : zX} {G : zG} {ce sl pc : Nat} {lv : List (Nat × Value)} {st : List Value} {cc : ByteArray} {nL : Nat} {ret : Option FieldType} {rm : Room} {own : String} {qM : Nat → Nat} {sM : zSt} {i : Int32} {α : Type} {o : α} {kk : Option α} (C : zC x G own cc nL ret rm) (hd : decode cc pc = .ok (.iaload, 1)) (h : zg (zix i 32) kk = some o) (K : kk = some o → zW x G ce sl (pc + 1) lv (.int (zA sM 9 i.toNatClampNeg) :: st) (wdM G qM sM)) : zW x G ce sl pc lv (.int i :: .ref (qM 10) :: st) (wdM G qM sM) := z_iald C 4 rfl hd h K
theorem rw_g_X12_64_M_M {x : zX} {G : zG} {ce sl pc : Nat} {lv : List (Nat × Value)} {st : List Value} {cc : ByteArray} {nL : Nat} {ret : Option FieldType} {rm : Room} {qM : Nat → Nat} {sM : zSt} (C : zC x G RX12 cc nL ret rm) (hd : decode cc pc = .ok (.getfield 64, 3)) (K : zW x G ce sl (pc + 3) lv (.ref (qM 39) :: st) (wdM G qM sM)) : zW x G ce sl pc lv (.ref (qM 0) :: st) (wdM G qM sM) := z_get C (Cn := RX12) (T := TX12) (N := 55) (ci := 11) (k := 38) inzX12 rfl (by decide) rw_u_998 (fun _ h => h) 0 rfl rfl hd K
theorem rw_l_M_M_38 {x : zX} {G : zG} {ce sl pc : Nat} {lv : List (Nat × Value)} {st : List Value} {cc : ByteArray} {nL : Nat} {ret : Option FieldType} {rm : Room} {own : String} {qM : Nat → Nat} {sM : zSt} {i : Int32} {α : Type} {o : α} {kk : Option α} (C : zC x G own cc nL ret rm) (hd : decode cc pc = .ok (.iaload, 1)) (h : zg (zix i 30) kk = some o) (K : kk = some o → zW x G ce sl (pc + 1) lv (.int (zA sM 38 i.toNatClampNeg) :: st) (wdM G qM sM)) : zW x G ce sl pc lv (.int i :: .ref (qM 39) :: st) (wdM G qM sM) := z_iald C 19 rfl hd h K
theorem rw_g_X12_58_M_M {x : zX} {G : zG} {ce sl pc : Nat} {lv : List (Nat × Value)} {st : List Value} {cc : ByteArray} {nL : Nat} {ret : Option FieldType} {rm : Room} {qM : Nat → Nat} {sM : zSt} (C : zC x G RX12 cc nL ret rm) (hd : decode cc pc = .ok (.getfield 58, 3)) (K : zW x G ce sl (pc + 3) lv (.ref (qM 37) :: st) (wdM G qM sM)) : zW x G ce sl pc lv (.ref (qM 0) :: st) (wdM G qM sM) := z_get C (Cn := RX12) (T := TX12) (N := 55) (ci := 11) (k := 36) inzX12 rfl (by decide) rw_u_996 (fun _ h => h) 0 rfl rfl hd K
theorem rw_l_M_M_36 {x : zX} {G : zG} {ce sl pc : Nat} {lv : List (Nat × Value)} {st : List Value} {cc : ByteArray} {nL : Nat} {ret : Option FieldType} {rm : Room} {own : String} {qM : Nat → Nat} {sM : zSt} {i : Int32} {α : Type} {o : α} {kk : Option α} (C : zC x G own cc nL ret rm) (hd : decode cc pc = .ok (.iaload, 1)) (h : zg (zix i 10) kk = some o) (K : kk = some o → zW x G ce sl (pc + 1) lv (.int (zA sM 36 i.toNatClampNeg) :: st) (wdM G qM sM)) : zW x G ce sl pc lv (.int i :: .ref (qM 37) :: st) (wdM G qM sM) := z_iald C 17 rfl hd h K
theorem rw_g_X12_34_M_M {x : zX} {G : zG} {ce sl pc : Nat} {lv : List (Nat × Value)} {st : List Value} {cc : ByteArray} {nL : Nat} {ret : Option FieldType} {rm : Room} {qM : Nat → Nat} {sM : zSt} (C : zC x G RX12 cc nL ret rm) (hd : decode cc pc = .ok (.getfield 34, 3)) (K : zW x G ce sl (pc + 3) lv (.ref (qM 28) :: st) (wdM G qM sM)) : zW x G ce sl pc lv (.ref (qM 0) :: st) (wdM G qM sM) := z_get C (Cn := RX12) (T := TX12) (N := 55) (ci := 11) (k := 27) inzX12 rfl (by decide) rw_u_987 (fun _ h => h) 0 rfl rfl hd K
theorem rw_l_M_M_27 {x : zX} {G : zG} {ce sl pc : Nat} {lv : List (Nat × Value)} {st : List Value} {cc : ByteArray} {nL : Nat} {ret : Option FieldType} {rm : Room} {own : String} {qM : Nat → Nat} {sM : zSt} {i : Int32} {α : Type} {o : α} {kk : Option α} (C : zC x G own cc nL ret rm) (hd : decode cc pc = .ok (.iaload, 1)) (h : zg (zix i 5) kk = some o) (K : kk = some o → zW x G ce sl (pc + 1) lv (.int (zA sM 27 i.toNatClampNeg) :: st) (wdM G qM sM)) : zW x G ce sl pc lv (.int i :: .ref (qM 28) :: st) (wdM G qM sM) := z_iald C 9 rfl hd h K
theorem rw_g_X12_37_M_M {x : zX} {G : zG} {ce sl pc : Nat} {lv : List (Nat × Value)} {st : List Value} {cc : ByteArray} {nL : Nat} {ret : Option FieldType} {rm : Room} {qM : Nat → Nat} {sM : zSt} (C : zC x G RX12 cc nL ret rm) (hd : decode cc pc = .ok (.getfield 37, 3)) (K : zW x G ce sl (pc + 3) lv (.ref (qM 30) :: st) (wdM G qM sM)) : zW x G ce sl pc lv (.ref (qM 0) :: st) (wdM G qM sM) := z_get C (Cn := RX12) (T := TX12) (N := 55) (ci := 11) (k := 29) inzX12 rfl (by decide) rw_u_989 (fun _ h => h) 0 rfl rfl hd K
theorem rw_c_X12_291 {x : zX} {G : zG} {ce sl pc : Nat} {lv : List (Nat × Value)} {cc : ByteArray} {nL : Nat} {ret : Option FieldType} {rm : Room} {w w1 : va_W} {rest : List Value} {r : Option Value} {a0 : Int32} {b : Nat} {fs : List Value} (C : zC x G RX12 cc nL ret rm) (hc : Ct (xl x) G yX12_byLaw cX12_byLaw 6 (some .int) rmX12_byLaw [.ref b, .int a0] w r w1) (q0 : Nat) (he : w[q0]? = some (b, .inr (11, fs))) (hd : decode cc pc = .ok (.invokevirtual 291, 3)) (hcat : (rest.map fun v => v.category).sum ≤ 8) (hrm : zRm rm rmX12_byLaw 6 ce sl) (K : zW x G (ce + rmX12_byLaw.cells) (sl + rmX12_byLaw.slots) (pc + 3) lv (r.toList ++ rest) w1) : zW x G ce sl pc lv (.int a0 :: .ref b :: rest) w := z_callV C 1 rw_u_1274 rw_u_78 rw_u_1271 rw_u_1273 rw_u_50 ⟨by decide, by decide, by decide +kernel⟩ (T := TX12) (N := 55) rfl hc rfl q0 he hd hcat hrm K
theorem rw_s_M_M_29 {x : zX} {G : zG} {ce sl pc : Nat} {lv : List (Nat × Value)} {st : List Value} {cc : ByteArray} {nL : Nat} {ret : Option FieldType} {rm : Room} {own : String} {qM : Nat → Nat} {sM : zSt} {i : Int32} {v : Int32} {α : Type} {o : α} {kk : zSt → Option α} (C : zC x G own cc nL ret rm) (hd : decode cc pc = .ok (.iastore, 1)) (h : zg (zix i 10) (zn (zsA sM 29 i.toNatClampNeg v) kk) = some o) (K : ∀ s' : zSt, kk s' = some o → zW x G ce sl (pc + 1) lv st (wdM G qM s')) : zW x G ce sl pc lv (.int v :: .int i :: .ref (qM 30) :: st) (wdM G qM sM) := z_iast C (w' := wdM G qM (zsA sM 29 i.toNatClampNeg v)) 10 rfl rfl hd h (fun h => K _ h)
theorem rw_g_X12_43_M_M {x : zX} {G : zG} {ce sl pc : Nat} {lv : List (Nat × Value)} {st : List Value} {cc : ByteArray} {nL : Nat} {ret : Option FieldType} {rm : Room} {qM : Nat → Nat} {sM : zSt} (C : zC x G RX12 cc nL ret rm) (hd : decode cc pc = .ok (.getfield 43, 3)) (K : zW x G ce sl (pc + 3) lv (.ref (qM 32) :: st) (wdM G qM sM)) : zW x G ce sl pc lv (.ref (qM 0) :: st) (wdM G qM sM) := z_get C (Cn := RX12) (T := TX12) (N := 55) (ci := 11) (k := 31) inzX12 rfl (by decide) rw_u_991 (fun _ h => h) 0 rfl rfl hd K
theorem rw_s_M_M_31 {x : zX} {G : zG} {ce sl pc : Nat} {lv : List (Nat × Value)} {st : List Value} {cc : ByteArray} {nL : Nat} {ret : Option FieldType} {rm : Room} {own : String} {qM : Nat → Nat} {sM : zSt} {i : Int32} {v : Int32} {α : Type} {o : α} {kk : zSt → Option α} (C : zC x G own cc nL ret rm) (hd : decode cc pc = .ok (.iastore, 1)) (h : zg (zix i 10) (zn (zsA sM 31 i.toNatClampNeg v) kk) = some o) (K : ∀ s' : zSt, kk s' = some o → zW x G ce sl (pc + 1) lv st (wdM G qM s')) : zW x G ce sl pc lv (.int v :: .int i :: .ref (qM 32) :: st) (wdM G qM sM) := z_iast C (w' := wdM G qM (zsA sM 31 i.toNatClampNeg v)) 12 rfl rfl hd h (fun h => K _ h)
theorem rw_g_X12_49_M_M {x : zX} {G : zG} {ce sl pc : Nat} {lv : List (Nat × Value)} {st : List Value} {cc : ByteArray} {nL : Nat} {ret : Option FieldType} {rm : Room} {qM : Nat → Nat} {sM : zSt} (C : zC x G RX12 cc nL ret rm) (hd : decode cc pc = .ok (.getfield 49, 3)) (K : zW x G ce sl (pc + 3) lv (.ref (qM 34) :: st) (wdM G qM sM)) : zW x G ce sl pc lv (.ref (qM 0) :: st) (wdM G qM sM) := z_get C (Cn := RX12) (T := TX12) (N := 55) (ci := 11) (k := 33) inzX12 rfl (by decide) rw_u_993 (fun _ h => h) 0 rfl rfl hd K
theorem rw_s_M_M_33 {x : zX} {G : zG} {ce sl pc : Nat} {lv : List (Nat × Value)} {st : List Value} {cc : ByteArray} {nL : Nat} {ret : Option FieldType} {rm : Room} {own : String} {qM : Nat → Nat} {sM : zSt} {i : Int32} {v : Int32} {α : Type} {o : α} {kk : zSt → Option α} (C : zC x G own cc nL ret rm) (hd : decode cc pc = .ok (.iastore, 1)) (h : zg (zix i 10) (zn (zsA sM 33 i.toNatClampNeg v) kk) = some o) (K : ∀ s' : zSt, kk s' = some o → zW x G ce sl (pc + 1) lv st (wdM G qM s')) : zW x G ce sl pc lv (.int v :: .int i :: .ref (qM 34) :: st) (wdM G qM sM) := z_iast C (w' := wdM G qM (zsA sM 33 i.toNatClampNeg v)) 14 rfl rfl hd h (fun h => K _ h)
theorem rw_g_X12_70_M_M {x : zX} {G : zG} {ce sl pc : Nat} {lv : List (Nat × Value)} {st : List Value} {cc : ByteArray} {nL : Nat} {ret : Option FieldType} {rm : Room} {qM : Nat → Nat} {sM : zSt} (C : zC x G RX12 cc nL ret rm) (hd : decode cc pc = .ok (.getfield 70, 3)) (K : zW x G ce sl (pc + 3) lv (.ref (qM 42) :: st) (wdM G qM sM)) : zW x G ce sl pc lv (.ref (qM 0) :: st) (wdM G qM sM) := z_get C (Cn := RX12) (T := TX12) (N := 55) (ci := 11) (k := 41) inzX12 rfl (by decide) rw_u_1001 (fun _ h => h) 0 rfl rfl hd K
theorem rw_g_X12_294_M_M {x : zX} {G : zG} {ce sl pc : Nat} {lv : List (Nat × Value)} {st : List Value} {cc : ByteArray} {nL : Nat} {ret : Option FieldType} {rm : Room} {qM : Nat → Nat} {sM : zSt} (C : zC x G RX12 cc nL ret rm) (hd : decode cc pc = .ok (.getfield 294, 3)) (K : zW x G ce sl (pc + 3) lv (.int (zI sM 40) :: st) (wdM G qM sM)) : zW x G ce sl pc lv (.ref (qM 0) :: st) (wdM G qM sM) := z_get C (Cn := RX12) (T := TX12) (N := 55) (ci := 11) (k := 40) inzX12 rfl (by decide) rw_u_1000 (fun _ h => h) 0 rfl rfl hd K
theorem rw_s_M_M_41 {x : zX} {G : zG} {ce sl pc : Nat} {lv : List (Nat × Value)} {st : List Value} {cc : ByteArray} {nL : Nat} {ret : Option FieldType} {rm : Room} {own : String} {qM : Nat → Nat} {sM : zSt} {i : Int32} {v : Int32} {α : Type} {o : α} {kk : zSt → Option α} (C : zC x G own cc nL ret rm) (hd : decode cc pc = .ok (.iastore, 1)) (h : zg (zix i 90) (zn (zsA sM 41 i.toNatClampNeg v) kk) = some o) (K : ∀ s' : zSt, kk s' = some o → zW x G ce sl (pc + 1) lv st (wdM G qM s')) : zW x G ce sl pc lv (.int v :: .int i :: .ref (qM 42) :: st) (wdM G qM sM) := z_iast C (w' := wdM G qM (zsA sM 41 i.toNatClampNeg v)) 21 rfl rfl hd h (fun h => K _ h)
theorem rw_g_X12_73_M_M {x : zX} {G : zG} {ce sl pc : Nat} {lv : List (Nat × Value)} {st : List Value} {cc : ByteArray} {nL : Nat} {ret : Option FieldType} {rm : Room} {qM : Nat → Nat} {sM : zSt} (C : zC x G RX12 cc nL ret rm) (hd : decode cc pc = .ok (.getfield 73, 3)) (K : zW x G ce sl (pc + 3) lv (.ref (qM 43) :: st) (wdM G qM sM)) : zW x G ce sl pc lv (.ref (qM 0) :: st) (wdM G qM sM) := z_get C (Cn := RX12) (T := TX12) (N := 55) (ci := 11) (k := 42) inzX12 rfl (by decide) rw_u_1002 (fun _ h => h) 0 rfl rfl hd K
theorem rw_s_M_M_42 {x : zX} {G : zG} {ce sl pc : Nat} {lv : List (Nat × Value)} {st : List Value} {cc : ByteArray} {nL : Nat} {ret : Option FieldType} {rm : Room} {own : String} {qM : Nat → Nat} {sM : zSt} {i : Int32} {v : Int32} {α : Type} {o : α} {kk : zSt → Option α} (C : zC x G own cc nL ret rm) (hd : decode cc pc = .ok (.iastore, 1)) (h : zg (zix i 90) (zn (zsA sM 42 i.toNatClampNeg v) kk) = some o) (K : ∀ s' : zSt, kk s' = some o → zW x G ce sl (pc + 1) lv st (wdM G qM s')) : zW x G ce sl pc lv (.int v :: .int i :: .ref (qM 43) :: st) (wdM G qM sM) := z_iast C (w' := wdM G qM (zsA sM 42 i.toNatClampNeg v)) 22 rfl rfl hd h (fun h => K _ h)
theorem rw_g_X12_76_M_M {x : zX} {G : zG} {ce sl pc : Nat} {lv : List (Nat × Value)} {st : List Value} {cc : ByteArray} {nL : Nat} {ret : Option FieldType} {rm : Room} {qM : Nat → Nat} {sM : zSt} (C : zC x G RX12 cc nL ret rm) (hd : decode cc pc = .ok (.getfield 76, 3)) (K : zW x G ce sl (pc + 3) lv (.ref (qM 44) :: st) (wdM G qM sM)) : zW x G ce sl pc lv (.ref (qM 0) :: st) (wdM G qM sM) := z_get C (Cn := RX12) (T := TX12) (N := 55) (ci := 11) (k := 43) inzX12 rfl (by decide) rw_u_1003 (fun _ h => h) 0 rfl rfl hd K
theorem rw_s_M_M_43 {x : zX} {G : zG} {ce sl pc : Nat} {lv : List (Nat × Value)} {st : List Value} {cc : ByteArray} {nL : Nat} {ret : Option FieldType} {rm : Room} {own : String} {qM : Nat → Nat} {sM : zSt} {i : Int32} {v : Int32} {α : Type} {o : α} {kk : zSt → Option α} (C : zC x G own cc nL ret rm) (hd : decode cc pc = .ok (.iastore, 1)) (h : zg (zix i 90) (zn (zsA sM 43 i.toNatClampNeg v) kk) = some o) (K : ∀ s' : zSt, kk s' = some o → zW x G ce sl (pc + 1) lv st (wdM G qM s')) : zW x G ce sl pc lv (.int v :: .int i :: .ref (qM 44) :: st) (wdM G qM sM) := z_iast C (w' := wdM G qM (zsA sM 43 i.toNatClampNeg v)) 23 rfl rfl hd h (fun h => K _ h)
theorem rw_g_X12_79_M_M {x : zX} {G : zG} {ce sl pc : Nat} {lv : List (Nat × Value)} {st : List Value} {cc : ByteArray} {nL : Nat} {ret : Option FieldType} {rm : Room} {qM : Nat → Nat} {sM : zSt} (C : zC x G RX12 cc nL ret rm) (hd : decode cc pc = .ok (.getfield 79, 3)) (K : zW x G ce sl (pc + 3) lv (.ref (qM 45) :: st) (wdM G qM sM)) : zW x G ce sl pc lv (.ref (qM 0) :: st) (wdM G qM sM) := z_get C (Cn := RX12) (T := TX12) (N := 55) (ci := 11) (k := 44) inzX12 rfl (by decide) rw_u_1004 (fun _ h => h) 0 rfl rfl hd K
theorem rw_g_X12_52_M_M {x : zX} {G : zG} {ce sl pc : Nat} {lv : List (Nat × Value)} {st : List Value} {cc : ByteArray} {nL : Nat} {ret : Option FieldType} {rm : Room} {qM : Nat → Nat} {sM : zSt} (C : zC x G RX12 cc nL ret rm) (hd : decode cc pc = .ok (.getfield 52, 3)) (K : zW x G ce sl (pc + 3) lv (.ref (qM 35) :: st) (wdM G qM sM)) : zW x G ce sl pc lv (.ref (qM 0) :: st) (wdM G qM sM) := z_get C (Cn := RX12) (T := TX12) (N := 55) (ci := 11) (k := 34) inzX12 rfl (by decide) rw_u_994 (fun _ h => h) 0 rfl rfl hd K
theorem rw_l_M_M_34 {x : zX} {G : zG} {ce sl pc : Nat} {lv : List (Nat × Value)} {st : List Value} {cc : ByteArray} {nL : Nat} {ret : Option FieldType} {rm : Room} {own : String} {qM : Nat → Nat} {sM : zSt} {i : Int32} {α : Type} {o : α} {kk : Option α} (C : zC x G own cc nL ret rm) (hd : decode cc pc = .ok (.iaload, 1)) (h : zg (zix i 10) kk = some o) (K : kk = some o → zW x G ce sl (pc + 1) lv (.int (zA sM 34 i.toNatClampNeg) :: st) (wdM G qM sM)) : zW x G ce sl pc lv (.int i :: .ref (qM 35) :: st) (wdM G qM sM) := z_iald C 15 rfl hd h K
theorem rw_s_M_M_44 {x : zX} {G : zG} {ce sl pc : Nat} {lv : List (Nat × Value)} {st : List Value} {cc : ByteArray} {nL : Nat} {ret : Option FieldType} {rm : Room} {own : String} {qM : Nat → Nat} {sM : zSt} {i : Int32} {v : Int32} {α : Type} {o : α} {kk : zSt → Option α} (C : zC x G own cc nL ret rm) (hd : decode cc pc = .ok (.iastore, 1)) (h : zg (zix i 90) (zn (zsA sM 44 i.toNatClampNeg v) kk) = some o) (K : ∀ s' : zSt, kk s' = some o → zW x G ce sl (pc + 1) lv st (wdM G qM s')) : zW x G ce sl pc lv (.int v :: .int i :: .ref (qM 45) :: st) (wdM G qM sM) := z_iast C (w' := wdM G qM (zsA sM 44 i.toNatClampNeg v)) 24 rfl rfl hd h (fun h => K _ h)
theorem rw_p_X12_294_M_M {x : zX} {G : zG} {ce sl pc : Nat} {lv : List (Nat × Value)} {st : List Value} {cc : ByteArray} {nL : Nat} {ret : Option FieldType} {rm : Room} {qM : Nat → Nat} {sM : zSt} {v : Int32} {α : Type} {o : α} {kk : zSt → Option α} (C : zC x G RX12 cc nL ret rm) (hd : decode cc pc = .ok (.putfield 294, 3)) (h : zn (zsI sM 40 v) kk = some o) (K : ∀ s' : zSt, kk s' = some o → zW x G ce sl (pc + 3) lv st (wdM G qM s')) : zW x G ce sl pc lv (.int v :: .ref (qM 0) :: st) (wdM G qM sM) := z_put C (Cn := RX12) (T := TX12) (N := 55) (ci := 11) (k := 40) (ty := .int) (w' := wdM G qM (zsI sM 40 v)) inzX12 tyX12 tyX12_ok nmX12 rfl (by decide) rw_u_1000 (fun _ h => h) rfl 0 rfl (by decide +kernel) rfl rfl (Nat.le_of_ble_eq_true rfl) rfl hd (K _ h)
theorem rw_g_X12_297_M_M {x : zX} {G : zG} {ce sl pc : Nat} {lv : List (Nat × Value)} {st : List Value} {cc : ByteArray} {nL : Nat} {ret : Option FieldType} {rm : Room} {qM : Nat → Nat} {sM : zSt} (C : zC x G RX12 cc nL ret rm) (hd : decode cc pc = .ok (.getfield 297, 3)) (K : zW x G ce sl (pc + 3) lv (.int (zI sM 28) :: st) (wdM G qM sM)) : zW x G ce sl pc lv (.ref (qM 0) :: st) (wdM G qM sM) := z_get C (Cn := RX12) (T := TX12) (N := 55) (ci := 11) (k := 28) inzX12 rfl (by decide) rw_u_988 (fun _ h => h) 0 rfl rfl hd K
theorem rw_p_X12_297_M_M {x : zX} {G : zG} {ce sl pc : Nat} {lv : List (Nat × Value)} {st : List Value} {cc : ByteArray} {nL : Nat} {ret : Option FieldType} {rm : Room} {qM : Nat → Nat} {sM : zSt} {v : Int32} {α : Type} {o : α} {kk : zSt → Option α} (C : zC x G RX12 cc nL ret rm) (hd : decode cc pc = .ok (.putfield 297, 3)) (h : zn (zsI sM 28 v) kk = some o) (K : ∀ s' : zSt, kk s' = some o → zW x G ce sl (pc + 3) lv st (wdM G qM s')) : zW x G ce sl pc lv (.int v :: .ref (qM 0) :: st) (wdM G qM sM) := z_put C (Cn := RX12) (T := TX12) (N := 55) (ci := 11) (k := 28) (ty := .int) (w' := wdM G qM (zsI sM 28 v)) inzX12 tyX12 tyX12_ok nmX12 rfl (by decide) rw_u_988 (fun _ h => h) rfl 0 rfl (by decide +kernel) rfl rfl (Nat.le_of_ble_eq_true rfl) rfl hd (K _ h)
theorem rw_l_M_M_10 {x : zX} {G : zG} {ce sl pc : Nat} {lv : List (Nat × Value)} {st : List Value} {cc : ByteArray} {nL : Nat} {ret : Option FieldType} {rm : Room} {own : String} {qM : Nat → Nat} {sM : zSt} {i : Int32} {α : Type} {o : α} {kk : Option α} (C : zC x G own cc nL ret rm) (hd : decode cc pc = .ok (.iaload, 1)) (h : zg (zix i 180) kk = some o) (K : kk = some o → zW x G ce sl (pc + 1) lv (.int (zA sM 10 i.toNatClampNeg) :: st) (wdM G qM sM)) : zW x G ce sl pc lv (.int i :: .ref (qM 11) :: st) (wdM G qM sM) := z_iald C 5 rfl hd h K
theorem rw_s_M_M_37 {x : zX} {G : zG} {ce sl pc : Nat} {lv : List (Nat × Value)} {st : List Value} {cc : ByteArray} {nL : Nat} {ret : Option FieldType} {rm : Room} {own : String} {qM : Nat → Nat} {sM : zSt} {i : Int32} {v : Int32} {α : Type} {o : α} {kk : zSt → Option α} (C : zC x G own cc nL ret rm) (hd : decode cc pc = .ok (.iastore, 1)) (h : zg (zix i 10) (zn (zsA sM 37 i.toNatClampNeg v) kk) = some o) (K : ∀ s' : zSt, kk s' = some o → zW x G ce sl (pc + 1) lv st (wdM G qM s')) : zW x G ce sl pc lv (.int v :: .int i :: .ref (qM 38) :: st) (wdM G qM sM) := z_iast C (w' := wdM G qM (zsA sM 37 i.toNatClampNeg v)) 18 rfl rfl hd h (fun h => K _ h)
theorem rw_s_M_M_36 {x : zX} {G : zG} {ce sl pc : Nat} {lv : List (Nat × Value)} {st : List Value} {cc : ByteArray} {nL : Nat} {ret : Option FieldType} {rm : Room} {own : String} {qM : Nat → Nat} {sM : zSt} {i : Int32} {v : Int32} {α : Type} {o : α} {kk : zSt → Option α} (C : zC x G own cc nL ret rm) (hd : decode cc pc = .ok (.iastore, 1)) (h : zg (zix i 10) (zn (zsA sM 36 i.toNatClampNeg v) kk) = some o) (K : ∀ s' : zSt, kk s' = some o → zW x G ce sl (pc + 1) lv st (wdM G qM s')) : zW x G ce sl pc lv (.int v :: .int i :: .ref (qM 37) :: st) (wdM G qM sM) := z_iast C (w' := wdM G qM (zsA sM 36 i.toNatClampNeg v)) 17 rfl rfl hd h (fun h => K _ h)
theorem rw_g_X12_55_M_M {x : zX} {G : zG} {ce sl pc : Nat} {lv : List (Nat × Value)} {st : List Value} {cc : ByteArray} {nL : Nat} {ret : Option FieldType} {rm : Room} {qM : Nat → Nat} {sM : zSt} (C : zC x G RX12 cc nL ret rm) (hd : decode cc pc = .ok (.getfield 55, 3)) (K : zW x G ce sl (pc + 3) lv (.ref (qM 36) :: st) (wdM G qM sM)) : zW x G ce sl pc lv (.ref (qM 0) :: st) (wdM G qM sM) := z_get C (Cn := RX12) (T := TX12) (N := 55) (ci := 11) (k := 35) inzX12 rfl (by decide) rw_u_995 (fun _ h => h) 0 rfl rfl hd K
theorem rw_s_M_M_35 {x : zX} {G : zG} {ce sl pc : Nat} {lv : List (Nat × Value)} {st : List Value} {cc : ByteArray} {nL : Nat} {ret : Option FieldType} {rm : Room} {own : String} {qM : Nat → Nat} {sM : zSt} {i : Int32} {v : Int32} {α : Type} {o : α} {kk : zSt → Option α} (C : zC x G own cc nL ret rm) (hd : decode cc pc = .ok (.iastore, 1)) (h : zg (zix i 10) (zn (zsA sM 35 i.toNatClampNeg v) kk) = some o) (K : ∀ s' : zSt, kk s' = some o → zW x G ce sl (pc + 1) lv st (wdM G qM s')) : zW x G ce sl pc lv (.int v :: .int i :: .ref (qM 36) :: st) (wdM G qM sM) := z_iast C (w' := wdM G qM (zsA sM 35 i.toNatClampNeg v)) 16 rfl rfl hd h (fun h => K _ h)
theorem rw_l_M_M_35 {x : zX} {G : zG} {ce sl pc : Nat} {lv : List (Nat × Value)} {st : List Value} {cc : ByteArray} {nL : Nat} {ret : Option FieldType} {rm : Room} {own : String} {qM : Nat → Nat} {sM : zSt} {i : Int32} {α : Type} {o : α} {kk : Option α} (C : zC x G own cc nL ret rm) (hd : decode cc pc = .ok (.iaload, 1)) (h : zg (zix i 10) kk = some o) (K : kk = some o → zW x G ce sl (pc + 1) lv (.int (zA sM 35 i.toNatClampNeg) :: st) (wdM G qM sM)) : zW x G ce sl pc lv (.int i :: .ref (qM 36) :: st) (wdM G qM sM) := z_iald C 16 rfl hd h K
theorem rw_s_M_M_34 {x : zX} {G : zG} {ce sl pc : Nat} {lv : List (Nat × Value)} {st : List Value} {cc : ByteArray} {nL : Nat} {ret : Option FieldType} {rm : Room} {own : String} {qM : Nat → Nat} {sM : zSt} {i : Int32} {v : Int32} {α : Type} {o : α} {kk : zSt → Option α} (C : zC x G own cc nL ret rm) (hd : decode cc pc = .ok (.iastore, 1)) (h : zg (zix i 10) (zn (zsA sM 34 i.toNatClampNeg v) kk) = some o) (K : ∀ s' : zSt, kk s' = some o → zW x G ce sl (pc + 1) lv st (wdM G qM s')) : zW x G ce sl pc lv (.int v :: .int i :: .ref (qM 35) :: st) (wdM G qM sM) := z_iast C (w' := wdM G qM (zsA sM 34 i.toNatClampNeg v)) 15 rfl rfl hd h (fun h => K _ h)
theorem rw_g_X12_46_M_M {x : zX} {G : zG} {ce sl pc : Nat} {lv : List (Nat × Value)} {st : List Value} {cc : ByteArray} {nL : Nat} {ret : Option FieldType} {rm : Room} {qM : Nat → Nat} {sM : zSt} (C : zC x G RX12 cc nL ret rm) (hd : decode cc pc = .ok (.getfield 46, 3)) (K : zW x G ce sl (pc + 3) lv (.ref (qM 33) :: st) (wdM G qM sM)) : zW x G ce sl pc lv (.ref (qM 0) :: st) (wdM G qM sM) := z_get C (Cn := RX12) (T := TX12) (N := 55) (ci := 11) (k := 32) inzX12 rfl (by decide) rw_u_992 (fun _ h => h) 0 rfl rfl hd K
theorem rw_s_M_M_32 {x : zX} {G : zG} {ce sl pc : Nat} {lv : List (Nat × Value)} {st : List Value} {cc : ByteArray} {nL : Nat} {ret : Option FieldType} {rm : Room} {own : String} {qM : Nat → Nat} {sM : zSt} {i : Int32} {v : Int32} {α : Type} {o : α} {kk : zSt → Option α} (C : zC x G own cc nL ret rm) (hd : decode cc pc = .ok (.iastore, 1)) (h : zg (zix i 10) (zn (zsA sM 32 i.toNatClampNeg v) kk) = some o) (K : ∀ s' : zSt, kk s' = some o → zW x G ce sl (pc + 1) lv st (wdM G qM s')) : zW x G ce sl pc lv (.int v :: .int i :: .ref (qM 33) :: st) (wdM G qM sM) := z_iast C (w' := wdM G qM (zsA sM 32 i.toNatClampNeg v)) 13 rfl rfl hd h (fun h => K _ h)
theorem rw_c_X12_304 {x : zX} {G : zG} {ce sl pc : Nat} {lv : List (Nat × Value)} {cc : ByteArray} {nL : Nat} {ret : Option FieldType} {rm : Room} {w w1 : va_W} {rest : List Value} {r : Option Value} {a0 : Int32} {a1 : Int32} {a2 : Int32} {b : Nat} {fs : List Value} (C : zC x G RX12 cc nL ret rm) (hc : Ct (xl x) G yX12_fall cX12_fall 5 none rmX12_fall [.ref b, .int a0, .int a1, .int a2] w r w1) (q0 : Nat) (he : w[q0]? = some (b, .inr (11, fs))) (hd : decode cc pc = .ok (.invokevirtual 304, 3)) (hcat : (rest.map fun v => v.category).sum ≤ 8) (hrm : zRm rm rmX12_fall 5 ce sl) (K : zW x G (ce + rmX12_fall.cells) (sl + rmX12_fall.slots) (pc + 3) lv (r.toList ++ rest) w1) : zW x G ce sl pc lv (.int a2 :: .int a1 :: .int a0 :: .ref b :: rest) w := z_callV C 3 rw_u_1270 rw_u_78 rw_u_1267 rw_u_1269 rw_u_49 ⟨by decide, by decide, by decide +kernel⟩ (T := TX12) (N := 55) rfl hc rfl q0 he hd hcat hrm K
theorem rw_g_X12_40_M_M {x : zX} {G : zG} {ce sl pc : Nat} {lv : List (Nat × Value)} {st : List Value} {cc : ByteArray} {nL : Nat} {ret : Option FieldType} {rm : Room} {qM : Nat → Nat} {sM : zSt} (C : zC x G RX12 cc nL ret rm) (hd : decode cc pc = .ok (.getfield 40, 3)) (K : zW x G ce sl (pc + 3) lv (.ref (qM 31) :: st) (wdM G qM sM)) : zW x G ce sl pc lv (.ref (qM 0) :: st) (wdM G qM sM) := z_get C (Cn := RX12) (T := TX12) (N := 55) (ci := 11) (k := 30) inzX12 rfl (by decide) rw_u_990 (fun _ h => h) 0 rfl rfl hd K
theorem rw_l_M_M_29 {x : zX} {G : zG} {ce sl pc : Nat} {lv : List (Nat × Value)} {st : List Value} {cc : ByteArray} {nL : Nat} {ret : Option FieldType} {rm : Room} {own : String} {qM : Nat → Nat} {sM : zSt} {i : Int32} {α : Type} {o : α} {kk : Option α} (C : zC x G own cc nL ret rm) (hd : decode cc pc = .ok (.iaload, 1)) (h : zg (zix i 10) kk = some o) (K : kk = some o → zW x G ce sl (pc + 1) lv (.int (zA sM 29 i.toNatClampNeg) :: st) (wdM G qM sM)) : zW x G ce sl pc lv (.int i :: .ref (qM 30) :: st) (wdM G qM sM) := z_iald C 10 rfl hd h K
theorem rw_s_M_M_30 {x : zX} {G : zG} {ce sl pc : Nat} {lv : List (Nat × Value)} {st : List Value} {cc : ByteArray} {nL : Nat} {ret : Option FieldType} {rm : Room} {own : String} {qM : Nat → Nat} {sM : zSt} {i : Int32} {v : Int32} {α : Type} {o : α} {kk : zSt → Option α} (C : zC x G own cc nL ret rm) (hd : decode cc pc = .ok (.iastore, 1)) (h : zg (zix i 10) (zn (zsA sM 30 i.toNatClampNeg v) kk) = some o) (K : ∀ s' : zSt, kk s' = some o → zW x G ce sl (pc + 1) lv st (wdM G qM s')) : zW x G ce sl pc lv (.int v :: .int i :: .ref (qM 31) :: st) (wdM G qM sM) := z_iast C (w' := wdM G qM (zsA sM 30 i.toNatClampNeg v)) 11 rfl rfl hd h (fun h => K _ h)
theorem rw_c_X12_300 {x : zX} {G : zG} {ce sl pc : Nat} {lv : List (Nat × Value)} {cc : ByteArray} {nL : Nat} {ret : Option FieldType} {rm : Room} {w w1 : va_W} {rest : List Value} {r : Option Value} {a0 : Int32} {a1 : Int32} {a2 : Int32} {b : Nat} {fs : List Value} (C : zC x G RX12 cc nL ret rm) (hc : Ct (xl x) G yX12_putIn cX12_putIn 4 none rmX12_putIn [.ref b, .int a0, .int a1, .int a2] w r w1) (q0 : Nat) (he : w[q0]? = some (b, .inr (11, fs))) (hd : decode cc pc = .ok (.invokevirtual 300, 3)) (hcat : (rest.map fun v => v.category).sum ≤ 8) (hrm : zRm rm rmX12_putIn 4 ce sl) (K : zW x G (ce + rmX12_putIn.cells) (sl + rmX12_putIn.slots) (pc + 3) lv (r.toList ++ rest) w1) : zW x G ce sl pc lv (.int a2 :: .int a1 :: .int a0 :: .ref b :: rest) w := z_callV C 3 rw_u_1282 rw_u_78 rw_u_1279 rw_u_1281 rw_u_52 ⟨by decide, by decide, by decide +kernel⟩ (T := TX12) (N := 55) rfl hc rfl q0 he hd hcat hrm K
theorem rw_s_M_M_38 {x : zX} {G : zG} {ce sl pc : Nat} {lv : List (Nat × Value)} {st : List Value} {cc : ByteArray} {nL : Nat} {ret : Option FieldType} {rm : Room} {own : String} {qM : Nat → Nat} {sM : zSt} {i : Int32} {v : Int32} {α : Type} {o : α} {kk : zSt → Option α} (C : zC x G own cc nL ret rm) (hd : decode cc pc = .ok (.iastore, 1)) (h : zg (zix i 30) (zn (zsA sM 38 i.toNatClampNeg v) kk) = some o) (K : ∀ s' : zSt, kk s' = some o → zW x G ce sl (pc + 1) lv st (wdM G qM s')) : zW x G ce sl pc lv (.int v :: .int i :: .ref (qM 39) :: st) (wdM G qM sM) := z_iast C (w' := wdM G qM (zsA sM 38 i.toNatClampNeg v)) 19 rfl rfl hd h (fun h => K _ h)
theorem rw_p_X12_288_M_M {x : zX} {G : zG} {ce sl pc : Nat} {lv : List (Nat × Value)} {st : List Value} {cc : ByteArray} {nL : Nat} {ret : Option FieldType} {rm : Room} {qM : Nat → Nat} {sM : zSt} {v : Int32} {α : Type} {o : α} {kk : zSt → Option α} (C : zC x G RX12 cc nL ret rm) (hd : decode cc pc = .ok (.putfield 288, 3)) (h : zn (zsI sM 26 v) kk = some o) (K : ∀ s' : zSt, kk s' = some o → zW x G ce sl (pc + 3) lv st (wdM G qM s')) : zW x G ce sl pc lv (.int v :: .ref (qM 0) :: st) (wdM G qM sM) := z_put C (Cn := RX12) (T := TX12) (N := 55) (ci := 11) (k := 26) (ty := .int) (w' := wdM G qM (zsI sM 26 v)) inzX12 tyX12 tyX12_ok nmX12 rfl (by decide) rw_u_986 (fun _ h => h) rfl 0 rfl (by decide +kernel) rfl rfl (Nat.le_of_ble_eq_true rfl) rfl hd (K _ h)
theorem rw_g_X12_67_M_M {x : zX} {G : zG} {ce sl pc : Nat} {lv : List (Nat × Value)} {st : List Value} {cc : ByteArray} {nL : Nat} {ret : Option FieldType} {rm : Room} {qM : Nat → Nat} {sM : zSt} (C : zC x G RX12 cc nL ret rm) (hd : decode cc pc = .ok (.getfield 67, 3)) (K : zW x G ce sl (pc + 3) lv (.ref (qM 40) :: st) (wdM G qM sM)) : zW x G ce sl pc lv (.ref (qM 0) :: st) (wdM G qM sM) := z_get C (Cn := RX12) (T := TX12) (N := 55) (ci := 11) (k := 39) inzX12 rfl (by decide) rw_u_999 (fun _ h => h) 0 rfl rfl hd K
theorem rw_l_M_M_39 {x : zX} {G : zG} {ce sl pc : Nat} {lv : List (Nat × Value)} {st : List Value} {cc : ByteArray} {nL : Nat} {ret : Option FieldType} {rm : Room} {own : String} {qM : Nat → Nat} {sM : zSt} {i : Int32} {α : Type} {o : α} {kk : Option α} (C : zC x G own cc nL ret rm) (hd : decode cc pc = .ok (.iaload, 1)) (h : zg (zix i 3) kk = some o) (K : kk = some o → zW x G ce sl (pc + 1) lv (.int (zA sM 39 i.toNatClampNeg) :: st) (wdM G qM sM)) : zW x G ce sl pc lv (.int i :: .ref (qM 40) :: st) (wdM G qM sM) := z_iald C 20 rfl hd h K
theorem rw_s_M_M_39 {x : zX} {G : zG} {ce sl pc : Nat} {lv : List (Nat × Value)} {st : List Value} {cc : ByteArray} {nL : Nat} {ret : Option FieldType} {rm : Room} {own : String} {qM : Nat → Nat} {sM : zSt} {i : Int32} {v : Int32} {α : Type} {o : α} {kk : zSt → Option α} (C : zC x G own cc nL ret rm) (hd : decode cc pc = .ok (.iastore, 1)) (h : zg (zix i 3) (zn (zsA sM 39 i.toNatClampNeg v) kk) = some o) (K : ∀ s' : zSt, kk s' = some o → zW x G ce sl (pc + 1) lv st (wdM G qM s')) : zW x G ce sl pc lv (.int v :: .int i :: .ref (qM 40) :: st) (wdM G qM sM) := z_iast C (w' := wdM G qM (zsA sM 39 i.toNatClampNeg v)) 20 rfl rfl hd h (fun h => K _ h)
theorem rw_c_X12_307 {x : zX} {G : zG} {ce sl pc : Nat} {lv : List (Nat × Value)} {cc : ByteArray} {nL : Nat} {ret : Option FieldType} {rm : Room} {w w1 : va_W} {rest : List Value} {r : Option Value} {a0 : Int32} {a1 : Int32} {b : Nat} {fs : List Value} (C : zC x G RX12 cc nL ret rm) (hc : Ct (xl x) G yX12_move cX12_move 4 none rmX12_move [.ref b, .int a0, .int a1] w r w1) (q0 : Nat) (he : w[q0]? = some (b, .inr (11, fs))) (hd : decode cc pc = .ok (.invokevirtual 307, 3)) (hcat : (rest.map fun v => v.category).sum ≤ 8) (hrm : zRm rm rmX12_move 4 ce sl) (K : zW x G (ce + rmX12_move.cells) (sl + rmX12_move.slots) (pc + 3) lv (r.toList ++ rest) w1) : zW x G ce sl pc lv (.int a1 :: .int a0 :: .ref b :: rest) w := z_callV C 2 rw_u_1266 rw_u_78 rw_u_1263 rw_u_1265 rw_u_48 ⟨by decide, by decide, by decide +kernel⟩ (T := TX12) (N := 55) rfl hc rfl q0 he hd hcat hrm K
theorem rw_s_M_M_27 {x : zX} {G : zG} {ce sl pc : Nat} {lv : List (Nat × Value)} {st : List Value} {cc : ByteArray} {nL : Nat} {ret : Option FieldType} {rm : Room} {own : String} {qM : Nat → Nat} {sM : zSt} {i : Int32} {v : Int32} {α : Type} {o : α} {kk : zSt → Option α} (C : zC x G own cc nL ret rm) (hd : decode cc pc = .ok (.iastore, 1)) (h : zg (zix i 5) (zn (zsA sM 27 i.toNatClampNeg v) kk) = some o) (K : ∀ s' : zSt, kk s' = some o → zW x G ce sl (pc + 1) lv st (wdM G qM s')) : zW x G ce sl pc lv (.int v :: .int i :: .ref (qM 28) :: st) (wdM G qM sM) := z_iast C (w' := wdM G qM (zsA sM 27 i.toNatClampNeg v)) 9 rfl rfl hd h (fun h => K _ h)
theorem rw_c_X12_310 {x : zX} {G : zG} {ce sl pc : Nat} {lv : List (Nat × Value)} {cc : ByteArray} {nL : Nat} {ret : Option FieldType} {rm : Room} {w w1 : va_W} {rest : List Value} {r : Option Value} {a0 : Int32} {a1 : Int32} {b : Nat} {fs : List Value} (C : zC x G RX12 cc nL ret rm) (hc : Ct (xl x) G yX12_bring cX12_bring 7 none rmX12_bring [.ref b, .int a0, .int a1] w r w1) (q0 : Nat) (he : w[q0]? = some (b, .inr (11, fs))) (hd : decode cc pc = .ok (.invokevirtual 310, 3)) (hcat : (rest.map fun v => v.category).sum ≤ 8) (hrm : zRm rm rmX12_bring 7 ce sl) (K : zW x G (ce + rmX12_bring.cells) (sl + rmX12_bring.slots) (pc + 3) lv (r.toList ++ rest) w1) : zW x G ce sl pc lv (.int a1 :: .int a0 :: .ref b :: rest) w := z_callV C 2 rw_u_1286 rw_u_78 rw_u_1283 rw_u_1285 rw_u_53 ⟨by decide, by decide, by decide +kernel⟩ (T := TX12) (N := 55) rfl hc rfl q0 he hd hcat hrm K
theorem rw_c_X12_313 {x : zX} {G : zG} {ce sl pc : Nat} {lv : List (Nat × Value)} {cc : ByteArray} {nL : Nat} {ret : Option FieldType} {rm : Room} {w w1 : va_W} {rest : List Value} {r : Option Value} {a0 : Int32} {b : Nat} {fs : List Value} (C : zC x G RX12 cc nL ret rm) (hc : Ct (xl x) G yX12_happen cX12_happen 5 none rmX12_happen [.ref b, .int a0] w r w1) (q0 : Nat) (he : w[q0]? = some (b, .inr (11, fs))) (hd : decode cc pc = .ok (.invokevirtual 313, 3)) (hcat : (rest.map fun v => v.category).sum ≤ 8) (hrm : zRm rm rmX12_happen 5 ce sl) (K : zW x G (ce + rmX12_happen.cells) (sl + rmX12_happen.slots) (pc + 3) lv (r.toList ++ rest) w1) : zW x G ce sl pc lv (.int a0 :: .ref b :: rest) w := z_callV C 1 rw_u_1278 rw_u_78 rw_u_1275 rw_u_1277 rw_u_51 ⟨by decide, by decide, by decide +kernel⟩ (T := TX12) (N := 55) rfl hc rfl q0 he hd hcat hrm K
theorem rw_c_X12_316 {x : zX} {G : zG} {ce sl pc : Nat} {lv : List (Nat × Value)} {cc : ByteArray} {nL : Nat} {ret : Option FieldType} {rm : Room} {w w1 : va_W} {rest : List Value} {r : Option Value} {a0 : Int32} {a1 : Int32} {a2 : Int32} {a3 : Int32} {a4 : Int32} {a5 : Int32} {b : Nat} {fs : List Value} (C : zC x G RX12 cc nL ret rm) (hc : Ct (xl x) G yX12_goThrough cX12_goThrough 10 none rmX12_goThrough [.ref b, .int a0, .int a1, .int a2, .int a3, .int a4, .int a5] w r w1) (q0 : Nat) (he : w[q0]? = some (b, .inr (11, fs))) (hd : decode cc pc = .ok (.invokevirtual 316, 3)) (hcat : (rest.map fun v => v.category).sum ≤ 8) (hrm : zRm rm rmX12_goThrough 10 ce sl) (K : zW x G (ce + rmX12_goThrough.cells) (sl + rmX12_goThrough.slots) (pc + 3) lv (r.toList ++ rest) w1) : zW x G ce sl pc lv (.int a5 :: .int a4 :: .int a3 :: .int a2 :: .int a1 :: .int a0 :: .ref b :: rest) w := z_callV C 6 rw_u_1262 rw_u_78 rw_u_1259 rw_u_1261 rw_u_47 ⟨by decide, by decide, by decide +kernel⟩ (T := TX12) (N := 55) rfl hc rfl q0 he hd hcat hrm K
theorem rw_g_X12_285_M_M {x : zX} {G : zG} {ce sl pc : Nat} {lv : List (Nat × Value)} {st : List Value} {cc : ByteArray} {nL : Nat} {ret : Option FieldType} {rm : Room} {qM : Nat → Nat} {sM : zSt} (C : zC x G RX12 cc nL ret rm) (hd : decode cc pc = .ok (.getfield 285, 3)) (K : zW x G ce sl (pc + 3) lv (.int (zI sM 8) :: st) (wdM G qM sM)) : zW x G ce sl pc lv (.ref (qM 0) :: st) (wdM G qM sM) := z_get C (Cn := RX12) (T := TX12) (N := 55) (ci := 11) (k := 8) inzX12 rfl (by decide) rw_u_968 (fun _ h => h) 0 rfl rfl hd K
theorem rw_c_X12_320 {x : zX} {G : zG} {ce sl pc : Nat} {lv : List (Nat × Value)} {cc : ByteArray} {nL : Nat} {ret : Option FieldType} {rm : Room} {w w1 : va_W} {rest : List Value} {r : Option Value} {a0 : Int32} {b : Nat} {fs : List Value} (C : zC x G RX12 cc nL ret rm) (hc : Ct (xl x) G yX12_isThing cX12_isThing 2 (some .boolean) rmX12_isThing [.ref b, .int a0] w r w1) (q0 : Nat) (he : w[q0]? = some (b, .inr (11, fs))) (hd : decode cc pc = .ok (.invokevirtual 320, 3)) (hcat : (rest.map fun v => v.category).sum ≤ 8) (hrm : zRm rm rmX12_isThing 2 ce sl) (K : zW x G (ce + rmX12_isThing.cells) (sl + rmX12_isThing.slots) (pc + 3) lv (r.toList ++ rest) w1) : zW x G ce sl pc lv (.int a0 :: .ref b :: rest) w := z_callV C 1 rw_u_1257 rw_u_78 rw_u_1254 rw_u_1256 rw_u_46 ⟨by decide, by decide, by decide +kernel⟩ (T := TX12) (N := 55) rfl hc rfl q0 he hd hcat hrm K
theorem rw_l_M_M_41 {x : zX} {G : zG} {ce sl pc : Nat} {lv : List (Nat × Value)} {st : List Value} {cc : ByteArray} {nL : Nat} {ret : Option FieldType} {rm : Room} {own : String} {qM : Nat → Nat} {sM : zSt} {i : Int32} {α : Type} {o : α} {kk : Option α} (C : zC x G own cc nL ret rm) (hd : decode cc pc = .ok (.iaload, 1)) (h : zg (zix i 90) kk = some o) (K : kk = some o → zW x G ce sl (pc + 1) lv (.int (zA sM 41 i.toNatClampNeg) :: st) (wdM G qM sM)) : zW x G ce sl pc lv (.int i :: .ref (qM 42) :: st) (wdM G qM sM) := z_iald C 21 rfl hd h K
theorem rw_c_X12_329 {x : zX} {G : zG} {ce sl pc : Nat} {lv : List (Nat × Value)} {cc : ByteArray} {nL : Nat} {ret : Option FieldType} {rm : Room} {w w1 : va_W} {rest : List Value} {r : Option Value}  {b : Nat} {fs : List Value} (C : zC x G RX12 cc nL ret rm) (hc : Ct (xl x) G yX12_goAll cX12_goAll 1 none rmX12_goAll [.ref b] w r w1) (q0 : Nat) (he : w[q0]? = some (b, .inr (11, fs))) (hd : decode cc pc = .ok (.invokevirtual 329, 3)) (hcat : (rest.map fun v => v.category).sum ≤ 8) (hrm : zRm rm rmX12_goAll 1 ce sl) (K : zW x G (ce + rmX12_goAll.cells) (sl + rmX12_goAll.slots) (pc + 3) lv (r.toList ++ rest) w1) : zW x G ce sl pc lv (.ref b :: rest) w := z_callV C 0 rw_u_1296 rw_u_78 rw_u_1293 rw_u_1295 rw_u_54 ⟨by decide, by decide, by decide +kernel⟩ (T := TX12) (N := 55) rfl hc rfl q0 he hd hcat hrm K
theorem rw_l_M_M_31 {x : zX} {G : zG} {ce sl pc : Nat} {lv : List (Nat × Value)} {st : List Value} {cc : ByteArray} {nL : Nat} {ret : Option FieldType} {rm : Room} {own : String} {qM : Nat → Nat} {sM : zSt} {i : Int32} {α : Type} {o : α} {kk : Option α} (C : zC x G own cc nL ret rm) (hd : decode cc pc = .ok (.iaload, 1)) (h : zg (zix i 10) kk = some o) (K : kk = some o → zW x G ce sl (pc + 1) lv (.int (zA sM 31 i.toNatClampNeg) :: st) (wdM G qM sM)) : zW x G ce sl pc lv (.int i :: .ref (qM 32) :: st) (wdM G qM sM) := z_iald C 12 rfl hd h K
theorem rw_l_M_M_32 {x : zX} {G : zG} {ce sl pc : Nat} {lv : List (Nat × Value)} {st : List Value} {cc : ByteArray} {nL : Nat} {ret : Option FieldType} {rm : Room} {own : String} {qM : Nat → Nat} {sM : zSt} {i : Int32} {α : Type} {o : α} {kk : Option α} (C : zC x G own cc nL ret rm) (hd : decode cc pc = .ok (.iaload, 1)) (h : zg (zix i 10) kk = some o) (K : kk = some o → zW x G ce sl (pc + 1) lv (.int (zA sM 32 i.toNatClampNeg) :: st) (wdM G qM sM)) : zW x G ce sl pc lv (.int i :: .ref (qM 33) :: st) (wdM G qM sM) := z_iald C 13 rfl hd h K
theorem rw_l_M_M_33 {x : zX} {G : zG} {ce sl pc : Nat} {lv : List (Nat × Value)} {st : List Value} {cc : ByteArray} {nL : Nat} {ret : Option FieldType} {rm : Room} {own : String} {qM : Nat → Nat} {sM : zSt} {i : Int32} {α : Type} {o : α} {kk : Option α} (C : zC x G own cc nL ret rm) (hd : decode cc pc = .ok (.iaload, 1)) (h : zg (zix i 10) kk = some o) (K : kk = some o → zW x G ce sl (pc + 1) lv (.int (zA sM 33 i.toNatClampNeg) :: st) (wdM G qM sM)) : zW x G ce sl pc lv (.int i :: .ref (qM 34) :: st) (wdM G qM sM) := z_iald C 14 rfl hd h K
theorem rw_c_X12_332 {x : zX} {G : zG} {ce sl pc : Nat} {lv : List (Nat × Value)} {cc : ByteArray} {nL : Nat} {ret : Option FieldType} {rm : Room} {w w1 : va_W} {rest : List Value} {r : Option Value} {a0 : Int32} {b : Nat} {fs : List Value} (C : zC x G RX12 cc nL ret rm) (hc : Ct (xl x) G yX12_putsInto cX12_putsInto 4 (some .int) rmX12_putsInto [.ref b, .int a0] w r w1) (q0 : Nat) (he : w[q0]? = some (b, .inr (11, fs))) (hd : decode cc pc = .ok (.invokevirtual 332, 3)) (hcat : (rest.map fun v => v.category).sum ≤ 8) (hrm : zRm rm rmX12_putsInto 4 ce sl) (K : zW x G (ce + rmX12_putsInto.cells) (sl + rmX12_putsInto.slots) (pc + 3) lv (r.toList ++ rest) w1) : zW x G ce sl pc lv (.int a0 :: .ref b :: rest) w := z_callV C 1 rw_u_1300 rw_u_78 rw_u_1297 rw_u_1299 rw_u_55 ⟨by decide, by decide, by decide +kernel⟩ (T := TX12) (N := 55) rfl hc rfl q0 he hd hcat hrm K
theorem rw_g_X12_275_M_M {x : zX} {G : zG} {ce sl pc : Nat} {lv : List (Nat × Value)} {st : List Value} {cc : ByteArray} {nL : Nat} {ret : Option FieldType} {rm : Room} {qM : Nat → Nat} {sM : zSt} (C : zC x G RX12 cc nL ret rm) (hd : decode cc pc = .ok (.getfield 275, 3)) (K : zW x G ce sl (pc + 3) lv (.int (zI sM 5) :: st) (wdM G qM sM)) : zW x G ce sl pc lv (.ref (qM 0) :: st) (wdM G qM sM) := z_get C (Cn := RX12) (T := TX12) (N := 55) (ci := 11) (k := 5) inzX12 rfl (by decide) rw_u_965 (fun _ h => h) 0 rfl rfl hd K
theorem rw_l_M_M_42 {x : zX} {G : zG} {ce sl pc : Nat} {lv : List (Nat × Value)} {st : List Value} {cc : ByteArray} {nL : Nat} {ret : Option FieldType} {rm : Room} {own : String} {qM : Nat → Nat} {sM : zSt} {i : Int32} {α : Type} {o : α} {kk : Option α} (C : zC x G own cc nL ret rm) (hd : decode cc pc = .ok (.iaload, 1)) (h : zg (zix i 90) kk = some o) (K : kk = some o → zW x G ce sl (pc + 1) lv (.int (zA sM 42 i.toNatClampNeg) :: st) (wdM G qM sM)) : zW x G ce sl pc lv (.int i :: .ref (qM 43) :: st) (wdM G qM sM) := z_iald C 22 rfl hd h K
theorem rw_l_M_M_43 {x : zX} {G : zG} {ce sl pc : Nat} {lv : List (Nat × Value)} {st : List Value} {cc : ByteArray} {nL : Nat} {ret : Option FieldType} {rm : Room} {own : String} {qM : Nat → Nat} {sM : zSt} {i : Int32} {α : Type} {o : α} {kk : Option α} (C : zC x G own cc nL ret rm) (hd : decode cc pc = .ok (.iaload, 1)) (h : zg (zix i 90) kk = some o) (K : kk = some o → zW x G ce sl (pc + 1) lv (.int (zA sM 43 i.toNatClampNeg) :: st) (wdM G qM sM)) : zW x G ce sl pc lv (.int i :: .ref (qM 44) :: st) (wdM G qM sM) := z_iald C 23 rfl hd h K
theorem rw_l_M_M_44 {x : zX} {G : zG} {ce sl pc : Nat} {lv : List (Nat × Value)} {st : List Value} {cc : ByteArray} {nL : Nat} {ret : Option FieldType} {rm : Room} {own : String} {qM : Nat → Nat} {sM : zSt} {i : Int32} {α : Type} {o : α} {kk : Option α} (C : zC x G own cc nL ret rm) (hd : decode cc pc = .ok (.iaload, 1)) (h : zg (zix i 90) kk = some o) (K : kk = some o → zW x G ce sl (pc + 1) lv (.int (zA sM 44 i.toNatClampNeg) :: st) (wdM G qM sM)) : zW x G ce sl pc lv (.int i :: .ref (qM 45) :: st) (wdM G qM sM) := z_iald C 24 rfl hd h K
theorem rw_g_X12_86_M_M {x : zX} {G : zG} {ce sl pc : Nat} {lv : List (Nat × Value)} {st : List Value} {cc : ByteArray} {nL : Nat} {ret : Option FieldType} {rm : Room} {qM : Nat → Nat} {sM : zSt} (C : zC x G RX12 cc nL ret rm) (hd : decode cc pc = .ok (.getfield 86, 3)) (K : zW x G ce sl (pc + 3) lv (.ref (qM 47) :: st) (wdM G qM sM)) : zW x G ce sl pc lv (.ref (qM 0) :: st) (wdM G qM sM) := z_get C (Cn := RX12) (T := TX12) (N := 55) (ci := 11) (k := 46) inzX12 rfl (by decide) rw_u_1006 (fun _ h => h) 0 rfl rfl hd K
theorem rw_l_M_M_46 {x : zX} {G : zG} {ce sl pc : Nat} {lv : List (Nat × Value)} {st : List Value} {cc : ByteArray} {nL : Nat} {ret : Option FieldType} {rm : Room} {own : String} {qM : Nat → Nat} {sM : zSt} {i : Int32} {α : Type} {o : α} {kk : Option α} (C : zC x G own cc nL ret rm) (hd : decode cc pc = .ok (.laload, 1)) (h : zg (zix i 3) kk = some o) (K : kk = some o → zW x G ce sl (pc + 1) lv (.long (zL sM 46 i.toNatClampNeg) :: st) (wdM G qM sM)) : zW x G ce sl pc lv (.int i :: .ref (qM 47) :: st) (wdM G qM sM) := z_lald C 26 rfl hd h K
theorem rw_s_M_M_46 {x : zX} {G : zG} {ce sl pc : Nat} {lv : List (Nat × Value)} {st : List Value} {cc : ByteArray} {nL : Nat} {ret : Option FieldType} {rm : Room} {own : String} {qM : Nat → Nat} {sM : zSt} {i : Int32} {v : Int64} {α : Type} {o : α} {kk : zSt → Option α} (C : zC x G own cc nL ret rm) (hd : decode cc pc = .ok (.lastore, 1)) (h : zg (zix i 3) (zn (zsL sM 46 i.toNatClampNeg v) kk) = some o) (K : ∀ s' : zSt, kk s' = some o → zW x G ce sl (pc + 1) lv st (wdM G qM s')) : zW x G ce sl pc lv (.long v :: .int i :: .ref (qM 47) :: st) (wdM G qM sM) := z_last C (w' := wdM G qM (zsL sM 46 i.toNatClampNeg v)) 26 rfl rfl hd h (fun h => K _ h)
theorem rw_g_X12_89_M_M {x : zX} {G : zG} {ce sl pc : Nat} {lv : List (Nat × Value)} {st : List Value} {cc : ByteArray} {nL : Nat} {ret : Option FieldType} {rm : Room} {qM : Nat → Nat} {sM : zSt} (C : zC x G RX12 cc nL ret rm) (hd : decode cc pc = .ok (.getfield 89, 3)) (K : zW x G ce sl (pc + 3) lv (.ref (qM 48) :: st) (wdM G qM sM)) : zW x G ce sl pc lv (.ref (qM 0) :: st) (wdM G qM sM) := z_get C (Cn := RX12) (T := TX12) (N := 55) (ci := 11) (k := 47) inzX12 rfl (by decide) rw_u_1007 (fun _ h => h) 0 rfl rfl hd K
theorem rw_l_M_M_47 {x : zX} {G : zG} {ce sl pc : Nat} {lv : List (Nat × Value)} {st : List Value} {cc : ByteArray} {nL : Nat} {ret : Option FieldType} {rm : Room} {own : String} {qM : Nat → Nat} {sM : zSt} {i : Int32} {α : Type} {o : α} {kk : Option α} (C : zC x G own cc nL ret rm) (hd : decode cc pc = .ok (.laload, 1)) (h : zg (zix i 9) kk = some o) (K : kk = some o → zW x G ce sl (pc + 1) lv (.long (zL sM 47 i.toNatClampNeg) :: st) (wdM G qM sM)) : zW x G ce sl pc lv (.int i :: .ref (qM 48) :: st) (wdM G qM sM) := z_lald C 27 rfl hd h K
theorem rw_s_M_M_47 {x : zX} {G : zG} {ce sl pc : Nat} {lv : List (Nat × Value)} {st : List Value} {cc : ByteArray} {nL : Nat} {ret : Option FieldType} {rm : Room} {own : String} {qM : Nat → Nat} {sM : zSt} {i : Int32} {v : Int64} {α : Type} {o : α} {kk : zSt → Option α} (C : zC x G own cc nL ret rm) (hd : decode cc pc = .ok (.lastore, 1)) (h : zg (zix i 9) (zn (zsL sM 47 i.toNatClampNeg v) kk) = some o) (K : ∀ s' : zSt, kk s' = some o → zW x G ce sl (pc + 1) lv st (wdM G qM s')) : zW x G ce sl pc lv (.long v :: .int i :: .ref (qM 48) :: st) (wdM G qM sM) := z_last C (w' := wdM G qM (zsL sM 47 i.toNatClampNeg v)) 27 rfl rfl hd h (fun h => K _ h)
theorem rw_g_X12_92_M_M {x : zX} {G : zG} {ce sl pc : Nat} {lv : List (Nat × Value)} {st : List Value} {cc : ByteArray} {nL : Nat} {ret : Option FieldType} {rm : Room} {qM : Nat → Nat} {sM : zSt} (C : zC x G RX12 cc nL ret rm) (hd : decode cc pc = .ok (.getfield 92, 3)) (K : zW x G ce sl (pc + 3) lv (.ref (qM 49) :: st) (wdM G qM sM)) : zW x G ce sl pc lv (.ref (qM 0) :: st) (wdM G qM sM) := z_get C (Cn := RX12) (T := TX12) (N := 55) (ci := 11) (k := 48) inzX12 rfl (by decide) rw_u_1008 (fun _ h => h) 0 rfl rfl hd K
theorem rw_l_M_M_48 {x : zX} {G : zG} {ce sl pc : Nat} {lv : List (Nat × Value)} {st : List Value} {cc : ByteArray} {nL : Nat} {ret : Option FieldType} {rm : Room} {own : String} {qM : Nat → Nat} {sM : zSt} {i : Int32} {α : Type} {o : α} {kk : Option α} (C : zC x G own cc nL ret rm) (hd : decode cc pc = .ok (.laload, 1)) (h : zg (zix i 9) kk = some o) (K : kk = some o → zW x G ce sl (pc + 1) lv (.long (zL sM 48 i.toNatClampNeg) :: st) (wdM G qM sM)) : zW x G ce sl pc lv (.int i :: .ref (qM 49) :: st) (wdM G qM sM) := z_lald C 28 rfl hd h K
theorem rw_s_M_M_48 {x : zX} {G : zG} {ce sl pc : Nat} {lv : List (Nat × Value)} {st : List Value} {cc : ByteArray} {nL : Nat} {ret : Option FieldType} {rm : Room} {own : String} {qM : Nat → Nat} {sM : zSt} {i : Int32} {v : Int64} {α : Type} {o : α} {kk : zSt → Option α} (C : zC x G own cc nL ret rm) (hd : decode cc pc = .ok (.lastore, 1)) (h : zg (zix i 9) (zn (zsL sM 48 i.toNatClampNeg v) kk) = some o) (K : ∀ s' : zSt, kk s' = some o → zW x G ce sl (pc + 1) lv st (wdM G qM s')) : zW x G ce sl pc lv (.long v :: .int i :: .ref (qM 49) :: st) (wdM G qM sM) := z_last C (w' := wdM G qM (zsL sM 48 i.toNatClampNeg v)) 28 rfl rfl hd h (fun h => K _ h)
theorem rw_g_X12_82_M_M {x : zX} {G : zG} {ce sl pc : Nat} {lv : List (Nat × Value)} {st : List Value} {cc : ByteArray} {nL : Nat} {ret : Option FieldType} {rm : Room} {qM : Nat → Nat} {sM : zSt} (C : zC x G RX12 cc nL ret rm) (hd : decode cc pc = .ok (.getfield 82, 3)) (K : zW x G ce sl (pc + 3) lv (.ref (qM 46) :: st) (wdM G qM sM)) : zW x G ce sl pc lv (.ref (qM 0) :: st) (wdM G qM sM) := z_get C (Cn := RX12) (T := TX12) (N := 55) (ci := 11) (k := 45) inzX12 rfl (by decide) rw_u_1005 (fun _ h => h) 0 rfl rfl hd K
theorem rw_l_M_M_45 {x : zX} {G : zG} {ce sl pc : Nat} {lv : List (Nat × Value)} {st : List Value} {cc : ByteArray} {nL : Nat} {ret : Option FieldType} {rm : Room} {own : String} {qM : Nat → Nat} {sM : zSt} {i : Int32} {α : Type} {o : α} {kk : Option α} (C : zC x G own cc nL ret rm) (hd : decode cc pc = .ok (.laload, 1)) (h : zg (zix i 3) kk = some o) (K : kk = some o → zW x G ce sl (pc + 1) lv (.long (zL sM 45 i.toNatClampNeg) :: st) (wdM G qM sM)) : zW x G ce sl pc lv (.int i :: .ref (qM 46) :: st) (wdM G qM sM) := z_lald C 25 rfl hd h K
theorem rw_s_M_M_45 {x : zX} {G : zG} {ce sl pc : Nat} {lv : List (Nat × Value)} {st : List Value} {cc : ByteArray} {nL : Nat} {ret : Option FieldType} {rm : Room} {own : String} {qM : Nat → Nat} {sM : zSt} {i : Int32} {v : Int64} {α : Type} {o : α} {kk : zSt → Option α} (C : zC x G own cc nL ret rm) (hd : decode cc pc = .ok (.lastore, 1)) (h : zg (zix i 3) (zn (zsL sM 45 i.toNatClampNeg v) kk) = some o) (K : ∀ s' : zSt, kk s' = some o → zW x G ce sl (pc + 1) lv st (wdM G qM s')) : zW x G ce sl pc lv (.long v :: .int i :: .ref (qM 46) :: st) (wdM G qM sM) := z_last C (w' := wdM G qM (zsL sM 45 i.toNatClampNeg v)) 25 rfl rfl hd h (fun h => K _ h)
theorem rw_c_X12_337 {x : zX} {G : zG} {ce sl pc : Nat} {lv : List (Nat × Value)} {cc : ByteArray} {nL : Nat} {ret : Option FieldType} {rm : Room} {w w1 : va_W} {rest : List Value} {r : Option Value} {a0 : Int32} {b : Nat} {fs : List Value} (C : zC x G RX12 cc nL ret rm) (hc : Ct (xl x) G yX12_isPurse cX12_isPurse 2 (some .boolean) rmX12_isPurse [.ref b, .int a0] w r w1) (q0 : Nat) (he : w[q0]? = some (b, .inr (11, fs))) (hd : decode cc pc = .ok (.invokevirtual 337, 3)) (hcat : (rest.map fun v => v.category).sum ≤ 8) (hrm : zRm rm rmX12_isPurse 2 ce sl) (K : zW x G (ce + rmX12_isPurse.cells) (sl + rmX12_isPurse.slots) (pc + 3) lv (r.toList ++ rest) w1) : zW x G ce sl pc lv (.int a0 :: .ref b :: rest) w := z_callV C 1 rw_u_1313 rw_u_78 rw_u_1310 rw_u_1312 rw_u_56 ⟨by decide, by decide, by decide +kernel⟩ (T := TX12) (N := 55) rfl hc rfl q0 he hd hcat hrm K
theorem rw_c_X12_342 {x : zX} {G : zG} {ce sl pc : Nat} {lv : List (Nat × Value)} {cc : ByteArray} {nL : Nat} {ret : Option FieldType} {rm : Room} {w w1 : va_W} {rest : List Value} {r : Option Value}  {b : Nat} {fs : List Value} (C : zC x G RX12 cc nL ret rm) (hc : Ct (xl x) G yX12_laySums cX12_laySums 7 none rmX12_laySums [.ref b] w r w1) (q0 : Nat) (he : w[q0]? = some (b, .inr (11, fs))) (hd : decode cc pc = .ok (.invokevirtual 342, 3)) (hcat : (rest.map fun v => v.category).sum ≤ 8) (hrm : zRm rm rmX12_laySums 7 ce sl) (K : zW x G (ce + rmX12_laySums.cells) (sl + rmX12_laySums.slots) (pc + 3) lv (r.toList ++ rest) w1) : zW x G ce sl pc lv (.ref b :: rest) w := z_callV C 0 rw_u_1318 rw_u_78 rw_u_1315 rw_u_1317 rw_u_57 ⟨by decide, by decide, by decide +kernel⟩ (T := TX12) (N := 55) rfl hc rfl q0 he hd hcat hrm K
theorem rw_g_X12_101_M_M {x : zX} {G : zG} {ce sl pc : Nat} {lv : List (Nat × Value)} {st : List Value} {cc : ByteArray} {nL : Nat} {ret : Option FieldType} {rm : Room} {qM : Nat → Nat} {sM : zSt} (C : zC x G RX12 cc nL ret rm) (hd : decode cc pc = .ok (.getfield 101, 3)) (K : zW x G ce sl (pc + 3) lv (.ref (qM 53) :: st) (wdM G qM sM)) : zW x G ce sl pc lv (.ref (qM 0) :: st) (wdM G qM sM) := z_get C (Cn := RX12) (T := TX12) (N := 55) (ci := 11) (k := 52) inzX12 rfl (by decide) rw_u_1012 (fun _ h => h) 0 rfl rfl hd K
theorem rw_l_M_M_52 {x : zX} {G : zG} {ce sl pc : Nat} {lv : List (Nat × Value)} {st : List Value} {cc : ByteArray} {nL : Nat} {ret : Option FieldType} {rm : Room} {own : String} {qM : Nat → Nat} {sM : zSt} {i : Int32} {α : Type} {o : α} {kk : Option α} (C : zC x G own cc nL ret rm) (hd : decode cc pc = .ok (.laload, 1)) (h : zg (zix i 9) kk = some o) (K : kk = some o → zW x G ce sl (pc + 1) lv (.long (zL sM 52 i.toNatClampNeg) :: st) (wdM G qM sM)) : zW x G ce sl pc lv (.int i :: .ref (qM 53) :: st) (wdM G qM sM) := z_lald C 31 rfl hd h K
theorem rw_c_X12_345 {x : zX} {G : zG} {ce sl pc : Nat} {lv : List (Nat × Value)} {cc : ByteArray} {nL : Nat} {ret : Option FieldType} {rm : Room} {w w1 : va_W} {rest : List Value} {r : Option Value} {a0 : Int32} {a1 : Int32} {a2 : Int32} {a3 : Int32} {b : Nat} {fs : List Value} (C : zC x G RX12 cc nL ret rm) (hc : Ct (xl x) G yX12_minor cX12_minor 5 (some .long) rmX12_minor [.ref b, .int a0, .int a1, .int a2, .int a3] w r w1) (q0 : Nat) (he : w[q0]? = some (b, .inr (11, fs))) (hd : decode cc pc = .ok (.invokevirtual 345, 3)) (hcat : (rest.map fun v => v.category).sum ≤ 8) (hrm : zRm rm rmX12_minor 5 ce sl) (K : zW x G (ce + rmX12_minor.cells) (sl + rmX12_minor.slots) (pc + 3) lv (r.toList ++ rest) w1) : zW x G ce sl pc lv (.int a3 :: .int a2 :: .int a1 :: .int a0 :: .ref b :: rest) w := z_callV C 4 rw_u_1342 rw_u_78 rw_u_1339 rw_u_1341 rw_u_61 ⟨by decide, by decide, by decide +kernel⟩ (T := TX12) (N := 55) rfl hc rfl q0 he hd hcat hrm K
theorem rw_s_M_M_52 {x : zX} {G : zG} {ce sl pc : Nat} {lv : List (Nat × Value)} {st : List Value} {cc : ByteArray} {nL : Nat} {ret : Option FieldType} {rm : Room} {own : String} {qM : Nat → Nat} {sM : zSt} {i : Int32} {v : Int64} {α : Type} {o : α} {kk : zSt → Option α} (C : zC x G own cc nL ret rm) (hd : decode cc pc = .ok (.lastore, 1)) (h : zg (zix i 9) (zn (zsL sM 52 i.toNatClampNeg v) kk) = some o) (K : ∀ s' : zSt, kk s' = some o → zW x G ce sl (pc + 1) lv st (wdM G qM s')) : zW x G ce sl pc lv (.long v :: .int i :: .ref (qM 53) :: st) (wdM G qM sM) := z_last C (w' := wdM G qM (zsL sM 52 i.toNatClampNeg v)) 31 rfl rfl hd h (fun h => K _ h)
theorem rw_c_X12_353 {x : zX} {G : zG} {ce sl pc : Nat} {lv : List (Nat × Value)} {cc : ByteArray} {nL : Nat} {ret : Option FieldType} {rm : Room} {w w1 : va_W} {rest : List Value} {r : Option Value}  {b : Nat} {fs : List Value} (C : zC x G RX12 cc nL ret rm) (hc : Ct (xl x) G yX12_laySides cX12_laySides 3 none rmX12_laySides [.ref b] w r w1) (q0 : Nat) (he : w[q0]? = some (b, .inr (11, fs))) (hd : decode cc pc = .ok (.invokevirtual 353, 3)) (hcat : (rest.map fun v => v.category).sum ≤ 8) (hrm : zRm rm rmX12_laySides 3 ce sl) (K : zW x G (ce + rmX12_laySides.cells) (sl + rmX12_laySides.slots) (pc + 3) lv (r.toList ++ rest) w1) : zW x G ce sl pc lv (.ref b :: rest) w := z_callV C 0 rw_u_1334 rw_u_78 rw_u_1331 rw_u_1333 rw_u_59 ⟨by decide, by decide, by decide +kernel⟩ (T := TX12) (N := 55) rfl hc rfl q0 he hd hcat hrm K
theorem rw_c_X12_356 {x : zX} {G : zG} {ce sl pc : Nat} {lv : List (Nat × Value)} {cc : ByteArray} {nL : Nat} {ret : Option FieldType} {rm : Room} {w w1 : va_W} {rest : List Value} {r : Option Value}  {b : Nat} {fs : List Value} (C : zC x G RX12 cc nL ret rm) (hc : Ct (xl x) G yX12_determinant cX12_determinant 1 (some .long) rmX12_determinant [.ref b] w r w1) (q0 : Nat) (he : w[q0]? = some (b, .inr (11, fs))) (hd : decode cc pc = .ok (.invokevirtual 356, 3)) (hcat : (rest.map fun v => v.category).sum ≤ 8) (hrm : zRm rm rmX12_determinant 1 ce sl) (K : zW x G (ce + rmX12_determinant.cells) (sl + rmX12_determinant.slots) (pc + 3) lv (r.toList ++ rest) w1) : zW x G ce sl pc lv (.ref b :: rest) w := z_callV C 0 rw_u_1338 rw_u_78 rw_u_1335 rw_u_1337 rw_u_60 ⟨by decide, by decide, by decide +kernel⟩ (T := TX12) (N := 55) rfl hc rfl q0 he hd hcat hrm K
theorem rw_p_X12_349_M_M {x : zX} {G : zG} {ce sl pc : Nat} {lv : List (Nat × Value)} {st : List Value} {cc : ByteArray} {nL : Nat} {ret : Option FieldType} {rm : Room} {qM : Nat → Nat} {sM : zSt} {v : Int64} {α : Type} {o : α} {kk : zSt → Option α} (C : zC x G RX12 cc nL ret rm) (hd : decode cc pc = .ok (.putfield 349, 3)) (h : zn (zsJ sM 49 v) kk = some o) (K : ∀ s' : zSt, kk s' = some o → zW x G ce sl (pc + 3) lv st (wdM G qM s')) : zW x G ce sl pc lv (.long v :: .ref (qM 0) :: st) (wdM G qM sM) := z_put C (Cn := RX12) (T := TX12) (N := 55) (ci := 11) (k := 49) (ty := .long) (w' := wdM G qM (zsJ sM 49 v)) inzX12 tyX12 tyX12_ok nmX12 rfl (by decide) rw_u_1009 (fun _ h => h) rfl 0 rfl (by decide +kernel) rfl rfl (Nat.le_of_ble_eq_true rfl) rfl hd (K _ h)
theorem rw_g_X12_98_M_M {x : zX} {G : zG} {ce sl pc : Nat} {lv : List (Nat × Value)} {st : List Value} {cc : ByteArray} {nL : Nat} {ret : Option FieldType} {rm : Room} {qM : Nat → Nat} {sM : zSt} (C : zC x G RX12 cc nL ret rm) (hd : decode cc pc = .ok (.getfield 98, 3)) (K : zW x G ce sl (pc + 3) lv (.ref (qM 52) :: st) (wdM G qM sM)) : zW x G ce sl pc lv (.ref (qM 0) :: st) (wdM G qM sM) := z_get C (Cn := RX12) (T := TX12) (N := 55) (ci := 11) (k := 51) inzX12 rfl (by decide) rw_u_1011 (fun _ h => h) 0 rfl rfl hd K
theorem rw_s_M_M_51 {x : zX} {G : zG} {ce sl pc : Nat} {lv : List (Nat × Value)} {st : List Value} {cc : ByteArray} {nL : Nat} {ret : Option FieldType} {rm : Room} {own : String} {qM : Nat → Nat} {sM : zSt} {i : Int32} {v : Int64} {α : Type} {o : α} {kk : zSt → Option α} (C : zC x G own cc nL ret rm) (hd : decode cc pc = .ok (.lastore, 1)) (h : zg (zix i 3) (zn (zsL sM 51 i.toNatClampNeg v) kk) = some o) (K : ∀ s' : zSt, kk s' = some o → zW x G ce sl (pc + 1) lv st (wdM G qM s')) : zW x G ce sl pc lv (.long v :: .int i :: .ref (qM 52) :: st) (wdM G qM sM) := z_last C (w' := wdM G qM (zsL sM 51 i.toNatClampNeg v)) 30 rfl rfl hd h (fun h => K _ h)
theorem rw_g_X12_95_M_M {x : zX} {G : zG} {ce sl pc : Nat} {lv : List (Nat × Value)} {st : List Value} {cc : ByteArray} {nL : Nat} {ret : Option FieldType} {rm : Room} {qM : Nat → Nat} {sM : zSt} (C : zC x G RX12 cc nL ret rm) (hd : decode cc pc = .ok (.getfield 95, 3)) (K : zW x G ce sl (pc + 3) lv (.ref (qM 51) :: st) (wdM G qM sM)) : zW x G ce sl pc lv (.ref (qM 0) :: st) (wdM G qM sM) := z_get C (Cn := RX12) (T := TX12) (N := 55) (ci := 11) (k := 50) inzX12 rfl (by decide) rw_u_1010 (fun _ h => h) 0 rfl rfl hd K
theorem rw_l_M_M_51 {x : zX} {G : zG} {ce sl pc : Nat} {lv : List (Nat × Value)} {st : List Value} {cc : ByteArray} {nL : Nat} {ret : Option FieldType} {rm : Room} {own : String} {qM : Nat → Nat} {sM : zSt} {i : Int32} {α : Type} {o : α} {kk : Option α} (C : zC x G own cc nL ret rm) (hd : decode cc pc = .ok (.laload, 1)) (h : zg (zix i 3) kk = some o) (K : kk = some o → zW x G ce sl (pc + 1) lv (.long (zL sM 51 i.toNatClampNeg) :: st) (wdM G qM sM)) : zW x G ce sl pc lv (.int i :: .ref (qM 52) :: st) (wdM G qM sM) := z_lald C 30 rfl hd h K
theorem rw_s_M_M_50 {x : zX} {G : zG} {ce sl pc : Nat} {lv : List (Nat × Value)} {st : List Value} {cc : ByteArray} {nL : Nat} {ret : Option FieldType} {rm : Room} {own : String} {qM : Nat → Nat} {sM : zSt} {i : Int32} {v : Int64} {α : Type} {o : α} {kk : zSt → Option α} (C : zC x G own cc nL ret rm) (hd : decode cc pc = .ok (.lastore, 1)) (h : zg (zix i 3) (zn (zsL sM 50 i.toNatClampNeg v) kk) = some o) (K : ∀ s' : zSt, kk s' = some o → zW x G ce sl (pc + 1) lv st (wdM G qM s')) : zW x G ce sl pc lv (.long v :: .int i :: .ref (qM 51) :: st) (wdM G qM sM) := z_last C (w' := wdM G qM (zsL sM 50 i.toNatClampNeg v)) 29 rfl rfl hd h (fun h => K _ h)
theorem rw_l_M_M_50 {x : zX} {G : zG} {ce sl pc : Nat} {lv : List (Nat × Value)} {st : List Value} {cc : ByteArray} {nL : Nat} {ret : Option FieldType} {rm : Room} {own : String} {qM : Nat → Nat} {sM : zSt} {i : Int32} {α : Type} {o : α} {kk : Option α} (C : zC x G own cc nL ret rm) (hd : decode cc pc = .ok (.laload, 1)) (h : zg (zix i 3) kk = some o) (K : kk = some o → zW x G ce sl (pc + 1) lv (.long (zL sM 50 i.toNatClampNeg) :: st) (wdM G qM sM)) : zW x G ce sl pc lv (.int i :: .ref (qM 51) :: st) (wdM G qM sM) := z_lald C 29 rfl hd h K
theorem rw_c_X12_359 {x : zX} {G : zG} {ce sl pc : Nat} {lv : List (Nat × Value)} {cc : ByteArray} {nL : Nat} {ret : Option FieldType} {rm : Room} {w w1 : va_W} {rest : List Value} {r : Option Value}  {b : Nat} {fs : List Value} (C : zC x G RX12 cc nL ret rm) (hc : Ct (xl x) G yX12_layNets cX12_layNets 3 none rmX12_layNets [.ref b] w r w1) (q0 : Nat) (he : w[q0]? = some (b, .inr (11, fs))) (hd : decode cc pc = .ok (.invokevirtual 359, 3)) (hcat : (rest.map fun v => v.category).sum ≤ 8) (hrm : zRm rm rmX12_layNets 3 ce sl) (K : zW x G (ce + rmX12_layNets.cells) (sl + rmX12_layNets.slots) (pc + 3) lv (r.toList ++ rest) w1) : zW x G ce sl pc lv (.ref b :: rest) w := z_callV C 0 rw_u_1330 rw_u_78 rw_u_1327 rw_u_1329 rw_u_58 ⟨by decide, by decide, by decide +kernel⟩ (T := TX12) (N := 55) rfl hc rfl q0 he hd hcat hrm K
theorem rw_g_X12_349_M_M {x : zX} {G : zG} {ce sl pc : Nat} {lv : List (Nat × Value)} {st : List Value} {cc : ByteArray} {nL : Nat} {ret : Option FieldType} {rm : Room} {qM : Nat → Nat} {sM : zSt} (C : zC x G RX12 cc nL ret rm) (hd : decode cc pc = .ok (.getfield 349, 3)) (K : zW x G ce sl (pc + 3) lv (.long (zJ sM 49) :: st) (wdM G qM sM)) : zW x G ce sl pc lv (.ref (qM 0) :: st) (wdM G qM sM) := z_get C (Cn := RX12) (T := TX12) (N := 55) (ci := 11) (k := 49) inzX12 rfl (by decide) rw_u_1009 (fun _ h => h) 0 rfl rfl hd K
theorem rw_c_X12_362 {x : zX} {G : zG} {ce sl pc : Nat} {lv : List (Nat × Value)} {cc : ByteArray} {nL : Nat} {ret : Option FieldType} {rm : Room} {w w1 : va_W} {rest : List Value} {r : Option Value} {a0 : Int64} {a1 : Int64} {a2 : Int32} (C : zC x G RX12 cc nL ret rm) (hc : Ct (xl x) G yX12_partOf cX12_partOf 11 (some .long) rmX12_partOf [.long a0, .long a1, .int a2] w r w1) (hd : decode cc pc = .ok (.invokestatic 362, 3)) (hcat : (rest.map fun v => v.category).sum ≤ 8) (hrm : zRm rm rmX12_partOf 11 ce sl) (K : zW x G (ce + rmX12_partOf.cells) (sl + rmX12_partOf.slots) (pc + 3) lv (r.toList ++ rest) w1) : zW x G ce sl pc lv (.int a2 :: .long a1 :: .long a0 :: rest) w := z_callS C 3 rw_u_1345 rw_u_78 rw_u_1343 rw_u_1344 ⟨by decide, by decide, by decide +kernel⟩ hc rfl hd hcat hrm K
theorem rw_c_X12_368 {x : zX} {G : zG} {ce sl pc : Nat} {lv : List (Nat × Value)} {cc : ByteArray} {nL : Nat} {ret : Option FieldType} {rm : Room} {w w1 : va_W} {rest : List Value} {r : Option Value} {a0 : Int32} {b : Nat} {fs : List Value} (C : zC x G RX12 cc nL ret rm) (hc : Ct (xl x) G yX12_endOf cX12_endOf 4 (some .long) rmX12_endOf [.ref b, .int a0] w r w1) (q0 : Nat) (he : w[q0]? = some (b, .inr (11, fs))) (hd : decode cc pc = .ok (.invokevirtual 368, 3)) (hcat : (rest.map fun v => v.category).sum ≤ 8) (hrm : zRm rm rmX12_endOf 4 ce sl) (K : zW x G (ce + rmX12_endOf.cells) (sl + rmX12_endOf.slots) (pc + 3) lv (r.toList ++ rest) w1) : zW x G ce sl pc lv (.int a0 :: .ref b :: rest) w := z_callV C 1 rw_u_1357 rw_u_78 rw_u_1354 rw_u_1356 rw_u_62 ⟨by decide, by decide, by decide +kernel⟩ (T := TX12) (N := 55) rfl hc rfl q0 he hd hcat hrm K
theorem rw_g_X12_279_M_M {x : zX} {G : zG} {ce sl pc : Nat} {lv : List (Nat × Value)} {st : List Value} {cc : ByteArray} {nL : Nat} {ret : Option FieldType} {rm : Room} {qM : Nat → Nat} {sM : zSt} (C : zC x G RX12 cc nL ret rm) (hd : decode cc pc = .ok (.getfield 279, 3)) (K : zW x G ce sl (pc + 3) lv (.int (zI sM 6) :: st) (wdM G qM sM)) : zW x G ce sl pc lv (.ref (qM 0) :: st) (wdM G qM sM) := z_get C (Cn := RX12) (T := TX12) (N := 55) (ci := 11) (k := 6) inzX12 rfl (by decide) rw_u_966 (fun _ h => h) 0 rfl rfl hd K
theorem rw_c_X12_375 {x : zX} {G : zG} {ce sl pc : Nat} {lv : List (Nat × Value)} {cc : ByteArray} {nL : Nat} {ret : Option FieldType} {rm : Room} {w w1 : va_W} {rest : List Value} {r : Option Value} {a0 : Int32} {a1 : Int32} {a2 : Int32} {a3 : Int32} {b : Nat} {fs : List Value} (C : zC x G RX12 cc nL ret rm) (hc : Ct (xl x) G yX12_isWished cX12_isWished 5 (some .boolean) rmX12_isWished [.ref b, .int a0, .int a1, .int a2, .int a3] w r w1) (q0 : Nat) (he : w[q0]? = some (b, .inr (11, fs))) (hd : decode cc pc = .ok (.invokevirtual 375, 3)) (hcat : (rest.map fun v => v.category).sum ≤ 8) (hrm : zRm rm rmX12_isWished 5 ce sl) (K : zW x G (ce + rmX12_isWished.cells) (sl + rmX12_isWished.slots) (pc + 3) lv (r.toList ++ rest) w1) : zW x G ce sl pc lv (.int a3 :: .int a2 :: .int a1 :: .int a0 :: .ref b :: rest) w := z_callV C 4 rw_u_1376 rw_u_78 rw_u_1373 rw_u_1375 rw_u_63 ⟨by decide, by decide, by decide +kernel⟩ (T := TX12) (N := 55) rfl hc rfl q0 he hd hcat hrm K
theorem rw_c_X12_381 {x : zX} {G : zG} {ce sl pc : Nat} {lv : List (Nat × Value)} {cc : ByteArray} {nL : Nat} {ret : Option FieldType} {rm : Room} {w w1 : va_W} {rest : List Value} {r : Option Value} {a0 : Int32} {b : Nat} {fs : List Value} (C : zC x G RX12 cc nL ret rm) (hc : Ct (xl x) G yX12_isFed cX12_isFed 4 (some .boolean) rmX12_isFed [.ref b, .int a0] w r w1) (q0 : Nat) (he : w[q0]? = some (b, .inr (11, fs))) (hd : decode cc pc = .ok (.invokevirtual 381, 3)) (hcat : (rest.map fun v => v.category).sum ≤ 8) (hrm : zRm rm rmX12_isFed 4 ce sl) (K : zW x G (ce + rmX12_isFed.cells) (sl + rmX12_isFed.slots) (pc + 3) lv (r.toList ++ rest) w1) : zW x G ce sl pc lv (.int a0 :: .ref b :: rest) w := z_callV C 1 rw_u_1389 rw_u_78 rw_u_1386 rw_u_1388 rw_u_65 ⟨by decide, by decide, by decide +kernel⟩ (T := TX12) (N := 55) rfl hc rfl q0 he hd hcat hrm K
theorem rw_l_M_M_30 {x : zX} {G : zG} {ce sl pc : Nat} {lv : List (Nat × Value)} {st : List Value} {cc : ByteArray} {nL : Nat} {ret : Option FieldType} {rm : Room} {own : String} {qM : Nat → Nat} {sM : zSt} {i : Int32} {α : Type} {o : α} {kk : Option α} (C : zC x G own cc nL ret rm) (hd : decode cc pc = .ok (.iaload, 1)) (h : zg (zix i 10) kk = some o) (K : kk = some o → zW x G ce sl (pc + 1) lv (.int (zA sM 30 i.toNatClampNeg) :: st) (wdM G qM sM)) : zW x G ce sl pc lv (.int i :: .ref (qM 31) :: st) (wdM G qM sM) := z_iald C 11 rfl hd h K
theorem rw_c_X12_386 {x : zX} {G : zG} {ce sl pc : Nat} {lv : List (Nat × Value)} {cc : ByteArray} {nL : Nat} {ret : Option FieldType} {rm : Room} {w w1 : va_W} {rest : List Value} {r : Option Value} {a0 : Int32} {b : Nat} {fs : List Value} (C : zC x G RX12 cc nL ret rm) (hc : Ct (xl x) G yX12_kindOf cX12_kindOf 2 (some .int) rmX12_kindOf [.ref b, .int a0] w r w1) (q0 : Nat) (he : w[q0]? = some (b, .inr (11, fs))) (hd : decode cc pc = .ok (.invokevirtual 386, 3)) (hcat : (rest.map fun v => v.category).sum ≤ 8) (hrm : zRm rm rmX12_kindOf 2 ce sl) (K : zW x G (ce + rmX12_kindOf.cells) (sl + rmX12_kindOf.slots) (pc + 3) lv (r.toList ++ rest) w1) : zW x G ce sl pc lv (.int a0 :: .ref b :: rest) w := z_callV C 1 rw_u_1385 rw_u_78 rw_u_1382 rw_u_1384 rw_u_64 ⟨by decide, by decide, by decide +kernel⟩ (T := TX12) (N := 55) rfl hc rfl q0 he hd hcat hrm K
theorem rw_c_X12_391 {x : zX} {G : zG} {ce sl pc : Nat} {lv : List (Nat × Value)} {cc : ByteArray} {nL : Nat} {ret : Option FieldType} {rm : Room} {w w1 : va_W} {rest : List Value} {r : Option Value} {a0 : Int32} {a1 : Int32} (C : zC x G RX12 cc nL ret rm) (hc : Ct (xl x) G yX12_isOf cX12_isOf 2 (some .boolean) rmX12_isOf [.int a0, .int a1] w r w1) (hd : decode cc pc = .ok (.invokestatic 391, 3)) (hcat : (rest.map fun v => v.category).sum ≤ 8) (hrm : zRm rm rmX12_isOf 2 ce sl) (K : zW x G (ce + rmX12_isOf.cells) (sl + rmX12_isOf.slots) (pc + 3) lv (r.toList ++ rest) w1) : zW x G ce sl pc lv (.int a1 :: .int a0 :: rest) w := z_callS C 2 rw_u_1397 rw_u_78 rw_u_1395 rw_u_1396 ⟨by decide, by decide, by decide +kernel⟩ hc rfl hd hcat hrm K
theorem rw_g_X12_395_M_M {x : zX} {G : zG} {ce sl pc : Nat} {lv : List (Nat × Value)} {st : List Value} {cc : ByteArray} {nL : Nat} {ret : Option FieldType} {rm : Room} {qM : Nat → Nat} {sM : zSt} (C : zC x G RX12 cc nL ret rm) (hd : decode cc pc = .ok (.getfield 395, 3)) (K : zW x G ce sl (pc + 3) lv (.int (zI sM 54) :: st) (wdM G qM sM)) : zW x G ce sl pc lv (.ref (qM 0) :: st) (wdM G qM sM) := z_get C (Cn := RX12) (T := TX12) (N := 55) (ci := 11) (k := 54) inzX12 rfl (by decide) rw_u_1014 (fun _ h => h) 0 rfl rfl hd K
theorem rw_g_X12_104_M_M {x : zX} {G : zG} {ce sl pc : Nat} {lv : List (Nat × Value)} {st : List Value} {cc : ByteArray} {nL : Nat} {ret : Option FieldType} {rm : Room} {qM : Nat → Nat} {sM : zSt} (C : zC x G RX12 cc nL ret rm) (hd : decode cc pc = .ok (.getfield 104, 3)) (K : zW x G ce sl (pc + 3) lv (.ref (qM 54) :: st) (wdM G qM sM)) : zW x G ce sl pc lv (.ref (qM 0) :: st) (wdM G qM sM) := z_get C (Cn := RX12) (T := TX12) (N := 55) (ci := 11) (k := 53) inzX12 rfl (by decide) rw_u_1013 (fun _ h => h) 0 rfl rfl hd K
theorem rw_s_M_M_53 {x : zX} {G : zG} {ce sl pc : Nat} {lv : List (Nat × Value)} {st : List Value} {cc : ByteArray} {nL : Nat} {ret : Option FieldType} {rm : Room} {own : String} {qM : Nat → Nat} {sM : zSt} {i : Int32} {v : Int32} {α : Type} {o : α} {kk : zSt → Option α} (C : zC x G own cc nL ret rm) (hd : decode cc pc = .ok (.iastore, 1)) (h : zg (zix i 16) (zn (zsA sM 53 i.toNatClampNeg v) kk) = some o) (K : ∀ s' : zSt, kk s' = some o → zW x G ce sl (pc + 1) lv st (wdM G qM s')) : zW x G ce sl pc lv (.int v :: .int i :: .ref (qM 54) :: st) (wdM G qM sM) := z_iast C (w' := wdM G qM (zsA sM 53 i.toNatClampNeg v)) 32 rfl rfl hd h (fun h => K _ h)
theorem rw_p_X12_395_M_M {x : zX} {G : zG} {ce sl pc : Nat} {lv : List (Nat × Value)} {st : List Value} {cc : ByteArray} {nL : Nat} {ret : Option FieldType} {rm : Room} {qM : Nat → Nat} {sM : zSt} {v : Int32} {α : Type} {o : α} {kk : zSt → Option α} (C : zC x G RX12 cc nL ret rm) (hd : decode cc pc = .ok (.putfield 395, 3)) (h : zn (zsI sM 54 v) kk = some o) (K : ∀ s' : zSt, kk s' = some o → zW x G ce sl (pc + 3) lv st (wdM G qM s')) : zW x G ce sl pc lv (.int v :: .ref (qM 0) :: st) (wdM G qM sM) := z_put C (Cn := RX12) (T := TX12) (N := 55) (ci := 11) (k := 54) (ty := .int) (w' := wdM G qM (zsI sM 54 v)) inzX12 tyX12 tyX12_ok nmX12 rfl (by decide) rw_u_1014 (fun _ h => h) rfl 0 rfl (by decide +kernel) rfl rfl (Nat.le_of_ble_eq_true rfl) rfl hd (K _ h)
theorem rw_c_X12_398 {x : zX} {G : zG} {ce sl pc : Nat} {lv : List (Nat × Value)} {cc : ByteArray} {nL : Nat} {ret : Option FieldType} {rm : Room} {w w1 : va_W} {rest : List Value} {r : Option Value} {a0 : Int32} {b : Nat} {fs : List Value} (C : zC x G RX12 cc nL ret rm) (hc : Ct (xl x) G yX12_began cX12_began 2 none rmX12_began [.ref b, .int a0] w r w1) (q0 : Nat) (he : w[q0]? = some (b, .inr (11, fs))) (hd : decode cc pc = .ok (.invokevirtual 398, 3)) (hcat : (rest.map fun v => v.category).sum ≤ 8) (hrm : zRm rm rmX12_began 2 ce sl) (K : zW x G (ce + rmX12_began.cells) (sl + rmX12_began.slots) (pc + 3) lv (r.toList ++ rest) w1) : zW x G ce sl pc lv (.int a0 :: .ref b :: rest) w := z_callV C 1 rw_u_1414 rw_u_78 rw_u_1411 rw_u_1413 rw_u_68 ⟨by decide, by decide, by decide +kernel⟩ (T := TX12) (N := 55) rfl hc rfl q0 he hd hcat hrm K
theorem rw_c_X12_401 {x : zX} {G : zG} {ce sl pc : Nat} {lv : List (Nat × Value)} {cc : ByteArray} {nL : Nat} {ret : Option FieldType} {rm : Room} {w w1 : va_W} {rest : List Value} {r : Option Value} {a0 : Int32} {b : Nat} {fs : List Value} (C : zC x G RX12 cc nL ret rm) (hc : Ct (xl x) G yX12_commonSize cX12_commonSize 2 (some .int) rmX12_commonSize [.ref b, .int a0] w r w1) (q0 : Nat) (he : w[q0]? = some (b, .inr (11, fs))) (hd : decode cc pc = .ok (.invokevirtual 401, 3)) (hcat : (rest.map fun v => v.category).sum ≤ 8) (hrm : zRm rm rmX12_commonSize 2 ce sl) (K : zW x G (ce + rmX12_commonSize.cells) (sl + rmX12_commonSize.slots) (pc + 3) lv (r.toList ++ rest) w1) : zW x G ce sl pc lv (.int a0 :: .ref b :: rest) w := z_callV C 1 rw_u_1410 rw_u_78 rw_u_1407 rw_u_1409 rw_u_67 ⟨by decide, by decide, by decide +kernel⟩ (T := TX12) (N := 55) rfl hc rfl q0 he hd hcat hrm K
theorem rw_c_X12_404 {x : zX} {G : zG} {ce sl pc : Nat} {lv : List (Nat × Value)} {cc : ByteArray} {nL : Nat} {ret : Option FieldType} {rm : Room} {w w1 : va_W} {rest : List Value} {r : Option Value} {a0 : Int32} {a1 : Int32} {b : Nat} {fs : List Value} (C : zC x G RX12 cc nL ret rm) (hc : Ct (xl x) G yX12_markOf cX12_markOf 5 (some .int) rmX12_markOf [.ref b, .int a0, .int a1] w r w1) (q0 : Nat) (he : w[q0]? = some (b, .inr (11, fs))) (hd : decode cc pc = .ok (.invokevirtual 404, 3)) (hcat : (rest.map fun v => v.category).sum ≤ 8) (hrm : zRm rm rmX12_markOf 5 ce sl) (K : zW x G (ce + rmX12_markOf.cells) (sl + rmX12_markOf.slots) (pc + 3) lv (r.toList ++ rest) w1) : zW x G ce sl pc lv (.int a1 :: .int a0 :: .ref b :: rest) w := z_callV C 2 rw_u_1418 rw_u_78 rw_u_1415 rw_u_1417 rw_u_69 ⟨by decide, by decide, by decide +kernel⟩ (T := TX12) (N := 55) rfl hc rfl q0 he hd hcat hrm K
theorem rw_c_X12_407 {x : zX} {G : zG} {ce sl pc : Nat} {lv : List (Nat × Value)} {cc : ByteArray} {nL : Nat} {ret : Option FieldType} {rm : Room} {w w1 : va_W} {rest : List Value} {r : Option Value} {a0 : Int32} {a1 : Int32} {b : Nat} {fs : List Value} (C : zC x G RX12 cc nL ret rm) (hc : Ct (xl x) G yX12_sizeOf cX12_sizeOf 4 (some .int) rmX12_sizeOf [.ref b, .int a0, .int a1] w r w1) (q0 : Nat) (he : w[q0]? = some (b, .inr (11, fs))) (hd : decode cc pc = .ok (.invokevirtual 407, 3)) (hcat : (rest.map fun v => v.category).sum ≤ 8) (hrm : zRm rm rmX12_sizeOf 4 ce sl) (K : zW x G (ce + rmX12_sizeOf.cells) (sl + rmX12_sizeOf.slots) (pc + 3) lv (r.toList ++ rest) w1) : zW x G ce sl pc lv (.int a1 :: .int a0 :: .ref b :: rest) w := z_callV C 2 rw_u_1406 rw_u_78 rw_u_1403 rw_u_1405 rw_u_66 ⟨by decide, by decide, by decide +kernel⟩ (T := TX12) (N := 55) rfl hc rfl q0 he hd hcat hrm K
theorem rw_l_M_M_53 {x : zX} {G : zG} {ce sl pc : Nat} {lv : List (Nat × Value)} {st : List Value} {cc : ByteArray} {nL : Nat} {ret : Option FieldType} {rm : Room} {own : String} {qM : Nat → Nat} {sM : zSt} {i : Int32} {α : Type} {o : α} {kk : Option α} (C : zC x G own cc nL ret rm) (hd : decode cc pc = .ok (.iaload, 1)) (h : zg (zix i 16) kk = some o) (K : kk = some o → zW x G ce sl (pc + 1) lv (.int (zA sM 53 i.toNatClampNeg) :: st) (wdM G qM sM)) : zW x G ce sl pc lv (.int i :: .ref (qM 54) :: st) (wdM G qM sM) := z_iald C 32 rfl hd h K
theorem rw_g_X12_111_M_M {x : zX} {G : zG} {ce sl pc : Nat} {lv : List (Nat × Value)} {st : List Value} {cc : ByteArray} {nL : Nat} {ret : Option FieldType} {rm : Room} {qM : Nat → Nat} {sM : zSt} (C : zC x G RX12 cc nL ret rm) (hd : decode cc pc = .ok (.getfield 111, 3)) (K : zW x G ce sl (pc + 3) lv (.int (zI sM 1) :: st) (wdM G qM sM)) : zW x G ce sl pc lv (.ref (qM 0) :: st) (wdM G qM sM) := z_get C (Cn := RX12) (T := TX12) (N := 55) (ci := 11) (k := 1) inzX12 rfl (by decide) rw_u_961 (fun _ h => h) 0 rfl rfl hd K
set_option maxHeartbeats 4000000 in
set_option maxRecDepth 100000 in
theorem cM_in {l : Launch} {G : zG}   {a0 : Int64} {a1 : Int64} {a2 : Int64} {out : Bool} (h : fM_in  a0 a1 a2 = some out) : Ct l G yX12_in cX12_in 6 (some .boolean) rmX12_in [.long a0, .long a1, .long a2] ([]) (some (.int (zb out))) ([]) := by
  refine zMet (own := RX12) rfl (by decide) (Nat.le_of_ble_eq_true rfl) (fun x hl C O => ?_)
  show zW x G 0 0 0 [(0, .long a0), (2, .long a1), (4, .long a2)] [] _
  unfold fM_in at h
  refine z_lload_n C dX12_in_0 0 rfl ?_
  refine z_lload_n C dX12_in_1 1 rfl ?_
  refine z_lcmp_lt C dX12_in_2 dX12_in_3 17 (by decide) h (fun h => ?_) (fun h => ?_)
  · refine z_iconst C 0 dX12_in_17 (by decide) ?_
    replace h := Option.some.inj h
    subst h
    exact z_zret C O dX12_in_18 (zb_nar false) rfl rfl
  · refine z_lload_n C dX12_in_6 0 rfl ?_
    refine z_lload C dX12_in_7 2 rfl ?_
    refine z_lcmp_gt C dX12_in_9 dX12_in_10 17 (by decide) h (fun h => ?_) (fun h => ?_)
    · refine z_iconst C 0 dX12_in_17 (by decide) ?_
      replace h := Option.some.inj h
      subst h
      exact z_zret C O dX12_in_18 (zb_nar false) rfl rfl
    · refine z_iconst C 1 dX12_in_13 (by decide) ?_
      refine z_goto C dX12_in_14 18 (by decide) ?_
      replace h := Option.some.inj h
      subst h
      exact z_zret C O dX12_in_18 (zb_nar true) rfl rfl
set_option maxHeartbeats 4000000 in
set_option maxRecDepth 100000 in
theorem cM_finding {l : Launch} {G : zG} {qM : Nat → Nat} {sM : zSt} {a0 : Int32} {out : Int64 × zSt} (h : fM_finding sM a0 = some out) : Ct l G yX12_finding cX12_finding 2 (some .long) rmX12_finding [.ref (qM 0), .int a0] (wdM G qM sM) (some (.long out.1)) (wdM G qM out.2) := by
  refine zMet (own := RX12) rfl (by decide) (Nat.le_of_ble_eq_true rfl) (fun x hl C O => ?_)
  show zW x G 0 0 0 [(0, .ref (qM 0)), (1, .int a0)] [] _
  unfold fM_finding at h
  refine z_aload_n C dX12_finding_0 0 rfl ?_
  refine z_iload_n C dX12_finding_1 1 rfl ?_
  refine rw_p_X12_111_M_M C dX12_finding_2 h (fun sM1 h => ?_)
  refine z_ldc2 C rw_u_1143 dX12_finding_5 ?_
  refine z_iload_n C dX12_finding_8 1 rfl ?_
  refine z_i2l C dX12_finding_9 ?_
  refine z_lsub C dX12_finding_10 ?_
  replace h := Option.some.inj h
  subst h
  exact z_lret C O dX12_finding_11 rfl rfl
set_option maxHeartbeats 4000000 in
set_option maxRecDepth 100000 in
theorem cM_isRow {l : Launch} {G : zG}   {a0 : Int32} {out : Bool} (h : fM_isRow  a0 = some out) : Ct l G yX12_isRow cX12_isRow 1 (some .boolean) rmX12_isRow [.int a0] ([]) (some (.int (zb out))) ([]) := by
  refine zMet (own := RX12) rfl (by decide) (Nat.le_of_ble_eq_true rfl) (fun x hl C O => ?_)
  show zW x G 0 0 0 [(0, .int a0)] [] _
  unfold fM_isRow at h
  refine z_iload_n C dX12_isRow_0 0 rfl ?_
  refine z_i2l C dX12_isRow_1 ?_
  refine z_lconst C 0 dX12_isRow_2 (by decide) ?_
  refine z_ldc2 C rw_u_1133 dX12_isRow_3 ?_
  obtain ⟨y1, hy1, h⟩ := bind_o h
  refine rw_c_X12_118 C (cM_in hy1) dX12_isRow_6 (Nat.le_of_ble_eq_true rfl) (zrm rfl) ?_
  replace h := Option.some.inj h
  subst h
  exact z_zret C O dX12_isRow_9 (zb_nar y1) rfl rfl
set_option maxHeartbeats 4000000 in
set_option maxRecDepth 100000 in
theorem kM_row_l66b {x : zX} {G : zG} {qM : Nat → Nat}  {out : Int64 × zSt} (C : zC x G RX12 cX12_row 5 (some .long) rmX12_row) (O : zO x G (some (.long out.1)) (wdM G qM out.2) 0 0) {K66 : zSt → Int32 → Int32 → Int32 → Option (Int64 × zSt)} (hK66 : ∀ (sM : zSt) (x1 : Int32) (x3 : Int32) (x4 : Int32), K66 sM x1 x3 x4 = some out → zW x G 0 0 66 [(0, .ref (qM 0)), (1, .int x1), (3, .int x3), (4, .int x4)] [] (wdM G qM sM)) {sM : zSt} {x1 : Int32} {x3 : Int32} {x4 : Int32} (h : fM_row_l66b K66 sM x1 x3 x4 = some out) : zW x G 0 0 66 [(0, .ref (qM 0)), (1, .int x1), (3, .int x3), (4, .int x4)] [] (wdM G qM sM) := by
  unfold fM_row_l66b at h
  refine z_iload C dX12_row_66 3 rfl ?_
  refine z_bipush C 40 dX12_row_68 (by decide) ?_
  refine z_icmp_ge C dX12_row_70 92 (by decide) h (fun h => ?_) (fun h => ?_)
  · refine z_iload_n C dX12_row_92 2 rfl ?_
    refine z_i2l C dX12_row_93 ?_
    replace h := Option.some.inj h
    subst h
    exact z_lret C O dX12_row_94 rfl rfl
  · refine z_aload_n C dX12_row_73 0 rfl ?_
    refine rw_g_X12_16_M_M C dX12_row_74 ?_
    refine z_bipush C 40 dX12_row_77 (by decide) ?_
    refine z_iload_n C dX12_row_79 1 rfl ?_
    refine z_imul C dX12_row_80 ?_
    refine z_iload C dX12_row_81 3 rfl ?_
    refine z_iadd C dX12_row_83 ?_
    refine z_iconst C 0 dX12_row_84 (by decide) ?_
    refine rw_s_M_M_4 C dX12_row_85 h (fun sM7 h => ?_)
    refine z_iinc C dX12_row_86 3 rfl 1 (by decide) (by decide) (lvr := [(0, .ref (qM 0)), (1, .int x1), (3, .int x3)]) rfl h (fun x4_8 h => ?_)
    refine z_goto C dX12_row_89 66 (by decide) ?_
    refine z_perm [1, 2, 3, 0] (lv' := [(0, .ref (qM 0)), (1, .int x1), (3, .int x3), (4, .int x4_8)]) rfl ?_
    exact hK66 _  _ _ _ h
set_option maxHeartbeats 4000000 in
set_option maxRecDepth 100000 in
theorem kM_row_l66 {x : zX} {G : zG} {qM : Nat → Nat}  {out : Int64 × zSt} (C : zC x G RX12 cX12_row 5 (some .long) rmX12_row) (O : zO x G (some (.long out.1)) (wdM G qM out.2) 0 0)  : ∀ (n : Nat) {sM : zSt} {x1 : Int32} {x3 : Int32} {x4 : Int32}, fM_row_l66  n sM x1 x3 x4 = some out → zW x G 0 0 66 [(0, .ref (qM 0)), (1, .int x1), (3, .int x3), (4, .int x4)] [] (wdM G qM sM) := by
  intro n
  induction n with
  | zero =>
    intro sM x1 x3 x4 h
    have h : (none : Option (Int64 × zSt)) = some out := h
    cases h
  | succ n ih =>
    intro sM x1 x3 x4 h
    exact kM_row_l66b C O (K66 := fun v0 v1 v2 v3 => fM_row_l66  n v0 v1 v2 v3) (fun sM x1 x3 x4 h => ih h) h
set_option maxHeartbeats 4000000 in
set_option maxRecDepth 100000 in
theorem cM_row {l : Launch} {G : zG} {qM : Nat → Nat} {sM : zSt} {a0 : Int32} {a1 : Int32} {a2 : Int32} {out : Int64 × zSt} (h : fM_row sM a0 a1 a2 = some out) : Ct l G yX12_row cX12_row 5 (some .long) rmX12_row [.ref (qM 0), .int a0, .int a1, .int a2] (wdM G qM sM) (some (.long out.1)) (wdM G qM out.2) := by
  refine zMet (own := RX12) rfl (by decide) (Nat.le_of_ble_eq_true rfl) (fun x hl C O => ?_)
  show zW x G 0 0 0 [(0, .ref (qM 0)), (1, .int a0), (2, .int a1), (3, .int a2)] [] _
  unfold fM_row at h
  refine z_aload_n C dX12_row_0 0 rfl ?_
  refine z_iconst C 0 dX12_row_1 (by decide) ?_
  refine rw_p_X12_107_M_M C dX12_row_2 h (fun sM1 h => ?_)
  refine z_iload_n C dX12_row_5 1 rfl ?_
  obtain ⟨y2, hy2, h⟩ := bind_o h
  refine rw_c_X12_122 C (Ct.frame0 (cM_isRow hy2)) dX12_row_6 (Nat.le_of_ble_eq_true rfl) (zrm rfl) ?_
  refine z_ifb_eq C dX12_row_9 30 (by decide) h (fun h => ?_) (fun h => ?_)
  · refine z_ldc2 C rw_u_1138 dX12_row_30 ?_
    replace h := Option.some.inj h
    subst h
    exact z_lret C O dX12_row_33 rfl rfl
  · refine z_iload_n C dX12_row_12 2 rfl ?_
    refine z_i2l C dX12_row_13 ?_
    refine z_lconst C 0 dX12_row_14 (by decide) ?_
    refine z_ldc2 C rw_u_1137 dX12_row_15 ?_
    obtain ⟨y3, hy3, h⟩ := bind_o h
    refine rw_c_X12_118 C (Ct.frame0 (cM_in hy3)) dX12_row_18 (Nat.le_of_ble_eq_true rfl) (zrm rfl) ?_
    refine z_ifb_eq C dX12_row_21 30 (by decide) h (fun h => ?_) (fun h => ?_)
    · refine z_ldc2 C rw_u_1138 dX12_row_30 ?_
      replace h := Option.some.inj h
      subst h
      exact z_lret C O dX12_row_33 rfl rfl
    · refine z_iload_n C dX12_row_24 3 rfl ?_
      refine z_bipush C 40 dX12_row_25 (by decide) ?_
      refine z_icmp_le C dX12_row_27 34 (by decide) h (fun h => ?_) (fun h => ?_)
      · refine z_aload_n C dX12_row_34 0 rfl ?_
        refine z_iconst C 0 dX12_row_35 (by decide) ?_
        refine rw_p_X12_111_M_M C dX12_row_36 h (fun sM4 h => ?_)
        refine z_iload_n C dX12_row_39 3 rfl ?_
        refine z_if_ge C dX12_row_40 49 (by decide) h (fun h => ?_) (fun h => ?_)
        · refine z_aload_n C dX12_row_49 0 rfl ?_
          refine rw_g_X12_9_M_M C dX12_row_50 ?_
          refine z_iload_n C dX12_row_53 1 rfl ?_
          refine z_iload_n C dX12_row_54 2 rfl ?_
          refine rw_s_M_M_2 C dX12_row_55 h (fun sM5 h => ?_)
          refine z_aload_n C dX12_row_56 0 rfl ?_
          refine rw_g_X12_13_M_M C dX12_row_57 ?_
          refine z_iload_n C dX12_row_60 1 rfl ?_
          refine z_iload_n C dX12_row_61 3 rfl ?_
          refine rw_s_M_M_3 C dX12_row_62 h (fun sM6 h => ?_)
          refine z_iconst C 0 dX12_row_63 (by decide) ?_
          refine z_istore C dX12_row_64 (by decide) (lvr := [(0, .ref (qM 0)), (1, .int a0), (2, .int a1), (3, .int a2)]) rfl ?_
          refine z_perm [1, 2, 4, 0] (lv' := [(0, .ref (qM 0)), (1, .int a0), (3, .int a2), (4, .int 0)]) rfl ?_
          exact kM_row_l66 C O  zF h
        · refine z_aload_n C dX12_row_43 0 rfl ?_
          refine z_iconst C 4 dX12_row_44 (by decide) ?_
          obtain ⟨y9, hy9, h⟩ := bind_o h
          refine rw_c_X12_130 C (cM_finding hy9) 0 rfl dX12_row_45 (Nat.le_of_ble_eq_true rfl) (zrm rfl) ?_
          replace h := Option.some.inj h
          subst h
          exact z_lret C O dX12_row_48 rfl rfl
      · refine z_ldc2 C rw_u_1138 dX12_row_30 ?_
        replace h := Option.some.inj h
        subst h
        exact z_lret C O dX12_row_33 rfl rfl
set_option maxHeartbeats 4000000 in
set_option maxRecDepth 100000 in
theorem kM_set_b100 {x : zX} {G : zG} {qM : Nat → Nat}  {out : Int64 × zSt} (C : zC x G RX12 cX12_set 4 (some .long) rmX12_set) (O : zO x G (some (.long out.1)) (wdM G qM out.2) 0 0)  {sM : zSt} {x1 : Int32} {x2 : Int32} {t0 : Int32} {t1 : Int32} (h : fM_set_b100  sM x1 x2 t0 t1 = some out) : zW x G 0 0 100 [(0, .ref (qM 0)), (1, .int x1), (2, .int x2)] [.int t0, .int t1, .ref (qM 5)] (wdM G qM sM) := by
  unfold fM_set_b100 at h
  refine rw_s_M_M_4 C dX12_set_100 h (fun sM5 h => ?_)
  refine z_aload_n C dX12_set_101 0 rfl ?_
  refine rw_g_X12_16_M_M C dX12_set_102 ?_
  refine z_bipush C 40 dX12_set_105 (by decide) ?_
  refine z_iload_n C dX12_set_107 1 rfl ?_
  refine z_imul C dX12_set_108 ?_
  refine z_iload_n C dX12_set_109 2 rfl ?_
  refine z_iadd C dX12_set_110 ?_
  refine rw_l_M_M_4 C dX12_set_111 h (fun h => ?_)
  refine z_i2l C dX12_set_112 ?_
  replace h := Option.some.inj h
  subst h
  exact z_lret C O dX12_set_113 rfl rfl
set_option maxHeartbeats 4000000 in
set_option maxRecDepth 100000 in
theorem cM_set {l : Launch} {G : zG} {qM : Nat → Nat} {sM : zSt} {a0 : Int32} {a1 : Int32} {a2 : Int32} {out : Int64 × zSt} (h : fM_set sM a0 a1 a2 = some out) : Ct l G yX12_set cX12_set 4 (some .long) rmX12_set [.ref (qM 0), .int a0, .int a1, .int a2] (wdM G qM sM) (some (.long out.1)) (wdM G qM out.2) := by
  refine zMet (own := RX12) rfl (by decide) (Nat.le_of_ble_eq_true rfl) (fun x hl C O => ?_)
  show zW x G 0 0 0 [(0, .ref (qM 0)), (1, .int a0), (2, .int a1), (3, .int a2)] [] _
  unfold fM_set at h
  refine z_aload_n C dX12_set_0 0 rfl ?_
  refine z_iconst C 0 dX12_set_1 (by decide) ?_
  refine rw_p_X12_107_M_M C dX12_set_2 h (fun sM1 h => ?_)
  refine z_iload_n C dX12_set_5 1 rfl ?_
  obtain ⟨y2, hy2, h⟩ := bind_o h
  refine rw_c_X12_122 C (Ct.frame0 (cM_isRow hy2)) dX12_set_6 (Nat.le_of_ble_eq_true rfl) (zrm rfl) ?_
  refine z_ifb_ne C dX12_set_9 16 (by decide) h (fun h => ?_) (fun h => ?_)
  · refine z_aload_n C dX12_set_16 0 rfl ?_
    refine z_iconst C 0 dX12_set_17 (by decide) ?_
    refine rw_p_X12_111_M_M C dX12_set_18 h (fun sM3 h => ?_)
    refine z_aload_n C dX12_set_21 0 rfl ?_
    refine rw_g_X12_9_M_M C dX12_set_22 ?_
    refine z_iload_n C dX12_set_25 1 rfl ?_
    refine rw_l_M_M_2 C dX12_set_26 h (fun h => ?_)
    refine z_if_ge C dX12_set_27 36 (by decide) h (fun h => ?_) (fun h => ?_)
    · refine z_iload_n C dX12_set_36 2 rfl ?_
      refine z_i2l C dX12_set_37 ?_
      refine z_lconst C 0 dX12_set_38 (by decide) ?_
      refine z_aload_n C dX12_set_39 0 rfl ?_
      refine rw_g_X12_13_M_M C dX12_set_40 ?_
      refine z_iload_n C dX12_set_43 1 rfl ?_
      refine rw_l_M_M_3 C dX12_set_44 h (fun h => ?_)
      refine z_iconst C 1 dX12_set_45 (by decide) ?_
      refine z_isub C dX12_set_46 ?_
      refine z_i2l C dX12_set_47 ?_
      obtain ⟨y4, hy4, h⟩ := bind_o h
      refine rw_c_X12_118 C (Ct.frame0 (cM_in hy4)) dX12_set_48 (Nat.le_of_ble_eq_true rfl) (zrm rfl) ?_
      refine z_ifb_ne C dX12_set_51 60 (by decide) h (fun h => ?_) (fun h => ?_)
      · refine z_aload_n C dX12_set_60 0 rfl ?_
        refine rw_g_X12_16_M_M C dX12_set_61 ?_
        refine z_bipush C 40 dX12_set_64 (by decide) ?_
        refine z_iload_n C dX12_set_66 1 rfl ?_
        refine z_imul C dX12_set_67 ?_
        refine z_iload_n C dX12_set_68 2 rfl ?_
        refine z_iadd C dX12_set_69 ?_
        refine z_aload_n C dX12_set_70 0 rfl ?_
        refine rw_g_X12_9_M_M C dX12_set_71 ?_
        refine z_iload_n C dX12_set_74 1 rfl ?_
        refine rw_l_M_M_2 C dX12_set_75 h (fun h => ?_)
        refine z_if_ne C dX12_set_76 84 (by decide) h (fun h => ?_) (fun h => ?_)
        · refine z_aload_n C dX12_set_84 0 rfl ?_
          refine rw_g_X12_9_M_M C dX12_set_85 ?_
          refine z_iload_n C dX12_set_88 1 rfl ?_
          refine rw_l_M_M_2 C dX12_set_89 h (fun h => ?_)
          refine z_iconst C 1 dX12_set_90 (by decide) ?_
          refine z_icmp_ne C dX12_set_91 99 (by decide) h (fun h => ?_) (fun h => ?_)
          · refine z_iload_n C dX12_set_99 3 rfl ?_
            refine z_perm [0, 1, 2] (lv' := [(0, .ref (qM 0)), (1, .int a0), (2, .int a1)]) rfl ?_
            exact kM_set_b100 C O  h
          · refine z_iload_n C dX12_set_94 3 rfl ?_
            refine z_i2s C dX12_set_95 ?_
            refine z_goto C dX12_set_96 100 (by decide) ?_
            refine z_perm [0, 1, 2] (lv' := [(0, .ref (qM 0)), (1, .int a0), (2, .int a1)]) rfl ?_
            exact kM_set_b100 C O  h
        · refine z_iload_n C dX12_set_79 3 rfl ?_
          refine z_i2b C dX12_set_80 ?_
          refine z_goto C dX12_set_81 100 (by decide) ?_
          refine z_perm [0, 1, 2] (lv' := [(0, .ref (qM 0)), (1, .int a0), (2, .int a1)]) rfl ?_
          exact kM_set_b100 C O  h
      · refine z_aload_n C dX12_set_54 0 rfl ?_
        refine z_iconst C 2 dX12_set_55 (by decide) ?_
        obtain ⟨y6, hy6, h⟩ := bind_o h
        refine rw_c_X12_130 C (cM_finding hy6) 0 rfl dX12_set_56 (Nat.le_of_ble_eq_true rfl) (zrm rfl) ?_
        replace h := Option.some.inj h
        subst h
        exact z_lret C O dX12_set_59 rfl rfl
    · refine z_aload_n C dX12_set_30 0 rfl ?_
      refine z_iconst C 1 dX12_set_31 (by decide) ?_
      obtain ⟨y7, hy7, h⟩ := bind_o h
      refine rw_c_X12_130 C (cM_finding hy7) 0 rfl dX12_set_32 (Nat.le_of_ble_eq_true rfl) (zrm rfl) ?_
      replace h := Option.some.inj h
      subst h
      exact z_lret C O dX12_set_35 rfl rfl
  · refine z_ldc2 C rw_u_1138 dX12_set_12 ?_
    replace h := Option.some.inj h
    subst h
    exact z_lret C O dX12_set_15 rfl rfl
set_option maxHeartbeats 4000000 in
set_option maxRecDepth 100000 in
theorem kM_copy_b168 {x : zX} {G : zG} {qM : Nat → Nat}  {out : Int64 × zSt} (C : zC x G RX12 cX12_copy 9 (some .long) rmX12_copy) (O : zO x G (some (.long out.1)) (wdM G qM out.2) 0 0) {K144 : zSt → Int32 → Int32 → Int32 → Int32 → Int32 → Int32 → Int32 → Option (Int64 × zSt)} (hK144 : ∀ (sM : zSt) (x1 : Int32) (x2 : Int32) (x3 : Int32) (x4 : Int32) (x5 : Int32) (x6 : Int32) (x7 : Int32), K144 sM x1 x2 x3 x4 x5 x6 x7 = some out → zW x G 0 0 144 [(0, .ref (qM 0)), (1, .int x1), (2, .int x2), (3, .int x3), (4, .int x4), (5, .int x5), (6, .int x6), (7, .int x7)] [] (wdM G qM sM)) {sM : zSt} {x1 : Int32} {x2 : Int32} {x3 : Int32} {x4 : Int32} {x5 : Int32} {x6 : Int32} {x7 : Int32} {t0 : Int32} (h : fM_copy_b168 K144 sM x1 x2 x3 x4 x5 x6 x7 t0 = some out) : zW x G 0 0 168 [(0, .ref (qM 0)), (1, .int x1), (2, .int x2), (3, .int x3), (4, .int x4), (5, .int x5), (6, .int x6), (7, .int x7)] [.int t0] (wdM G qM sM) := by
  unfold fM_copy_b168 at h
  refine z_istore C dX12_copy_168 (by decide) (lvr := [(0, .ref (qM 0)), (1, .int x1), (2, .int x2), (3, .int x3), (4, .int x4), (5, .int x5), (6, .int x6), (7, .int x7)]) rfl ?_
  refine z_aload_n C dX12_copy_170 1 rfl ?_
  refine rw_g_X12_16_M_M C dX12_copy_171 ?_
  refine z_bipush C 40 dX12_copy_174 (by decide) ?_
  refine z_iload_n C dX12_copy_176 4 rfl ?_
  refine z_imul C dX12_copy_177 ?_
  refine z_iload C dX12_copy_178 5 rfl ?_
  refine z_iadd C dX12_copy_180 ?_
  refine z_iload C dX12_copy_181 0 rfl ?_
  refine z_iadd C dX12_copy_183 ?_
  refine z_aload_n C dX12_copy_184 1 rfl ?_
  refine rw_g_X12_16_M_M C dX12_copy_185 ?_
  refine z_bipush C 40 dX12_copy_188 (by decide) ?_
  refine z_iload_n C dX12_copy_190 2 rfl ?_
  refine z_imul C dX12_copy_191 ?_
  refine z_iload_n C dX12_copy_192 3 rfl ?_
  refine z_iadd C dX12_copy_193 ?_
  refine z_iload C dX12_copy_194 0 rfl ?_
  refine z_iadd C dX12_copy_196 ?_
  refine rw_l_M_M_4 C dX12_copy_197 h (fun h => ?_)
  refine rw_s_M_M_4 C dX12_copy_198 h (fun sM10 h => ?_)
  refine z_iinc C dX12_copy_199 8 rfl 1 (by decide) (by decide) (lvr := [(8, .int t0), (0, .ref (qM 0)), (1, .int x1), (2, .int x2), (3, .int x3), (4, .int x4), (5, .int x5), (6, .int x6)]) rfl h (fun x7_11 h => ?_)
  refine z_goto C dX12_copy_202 144 (by decide) ?_
  refine z_perm [2, 3, 4, 5, 6, 7, 8, 0] (lv' := [(0, .ref (qM 0)), (1, .int x1), (2, .int x2), (3, .int x3), (4, .int x4), (5, .int x5), (6, .int x6), (7, .int x7_11)]) rfl ?_
  exact hK144 _  _ _ _ _ _ _ _ h
set_option maxHeartbeats 4000000 in
set_option maxRecDepth 100000 in
theorem kM_copy_l144b {x : zX} {G : zG} {qM : Nat → Nat}  {out : Int64 × zSt} (C : zC x G RX12 cX12_copy 9 (some .long) rmX12_copy) (O : zO x G (some (.long out.1)) (wdM G qM out.2) 0 0) {K144 : zSt → Int32 → Int32 → Int32 → Int32 → Int32 → Int32 → Int32 → Option (Int64 × zSt)} (hK144 : ∀ (sM : zSt) (x1 : Int32) (x2 : Int32) (x3 : Int32) (x4 : Int32) (x5 : Int32) (x6 : Int32) (x7 : Int32), K144 sM x1 x2 x3 x4 x5 x6 x7 = some out → zW x G 0 0 144 [(0, .ref (qM 0)), (1, .int x1), (2, .int x2), (3, .int x3), (4, .int x4), (5, .int x5), (6, .int x6), (7, .int x7)] [] (wdM G qM sM)) {sM : zSt} {x1 : Int32} {x2 : Int32} {x3 : Int32} {x4 : Int32} {x5 : Int32} {x6 : Int32} {x7 : Int32} (h : fM_copy_l144b K144 sM x1 x2 x3 x4 x5 x6 x7 = some out) : zW x G 0 0 144 [(0, .ref (qM 0)), (1, .int x1), (2, .int x2), (3, .int x3), (4, .int x4), (5, .int x5), (6, .int x6), (7, .int x7)] [] (wdM G qM sM) := by
  unfold fM_copy_l144b at h
  refine z_iload C dX12_copy_144 7 rfl ?_
  refine z_iload C dX12_copy_146 5 rfl ?_
  refine z_icmp_ge C dX12_copy_148 205 (by decide) h (fun h => ?_) (fun h => ?_)
  · refine z_iload C dX12_copy_205 5 rfl ?_
    refine z_i2l C dX12_copy_207 ?_
    replace h := Option.some.inj h
    subst h
    exact z_lret C O dX12_copy_208 rfl rfl
  · refine z_iload C dX12_copy_151 6 rfl ?_
    refine z_if_eq C dX12_copy_153 161 (by decide) h (fun h => ?_) (fun h => ?_)
    · refine z_iload C dX12_copy_161 5 rfl ?_
      refine z_iconst C 1 dX12_copy_163 (by decide) ?_
      refine z_isub C dX12_copy_164 ?_
      refine z_iload C dX12_copy_165 7 rfl ?_
      refine z_isub C dX12_copy_167 ?_
      exact kM_copy_b168 C O hK144 h
    · refine z_iload C dX12_copy_156 7 rfl ?_
      refine z_goto C dX12_copy_158 168 (by decide) ?_
      exact kM_copy_b168 C O hK144 h
set_option maxHeartbeats 4000000 in
set_option maxRecDepth 100000 in
theorem kM_copy_l144 {x : zX} {G : zG} {qM : Nat → Nat}  {out : Int64 × zSt} (C : zC x G RX12 cX12_copy 9 (some .long) rmX12_copy) (O : zO x G (some (.long out.1)) (wdM G qM out.2) 0 0)  : ∀ (n : Nat) {sM : zSt} {x1 : Int32} {x2 : Int32} {x3 : Int32} {x4 : Int32} {x5 : Int32} {x6 : Int32} {x7 : Int32}, fM_copy_l144  n sM x1 x2 x3 x4 x5 x6 x7 = some out → zW x G 0 0 144 [(0, .ref (qM 0)), (1, .int x1), (2, .int x2), (3, .int x3), (4, .int x4), (5, .int x5), (6, .int x6), (7, .int x7)] [] (wdM G qM sM) := by
  intro n
  induction n with
  | zero =>
    intro sM x1 x2 x3 x4 x5 x6 x7 h
    have h : (none : Option (Int64 × zSt)) = some out := h
    cases h
  | succ n ih =>
    intro sM x1 x2 x3 x4 x5 x6 x7 h
    exact kM_copy_l144b C O (K144 := fun v0 v1 v2 v3 v4 v5 v6 v7 => fM_copy_l144  n v0 v1 v2 v3 v4 v5 v6 v7) (fun sM x1 x2 x3 x4 x5 x6 x7 h => ih h) h
set_option maxHeartbeats 4000000 in
set_option maxRecDepth 100000 in
theorem cM_copy {l : Launch} {G : zG} {qM : Nat → Nat} {sM : zSt} {a0 : Int32} {a1 : Int32} {a2 : Int32} {a3 : Int32} {a4 : Int32} {out : Int64 × zSt} (h : fM_copy sM a0 a1 a2 a3 a4 = some out) : Ct l G yX12_copy cX12_copy 9 (some .long) rmX12_copy [.ref (qM 0), .int a0, .int a1, .int a2, .int a3, .int a4] (wdM G qM sM) (some (.long out.1)) (wdM G qM out.2) := by
  refine zMet (own := RX12) rfl (by decide) (Nat.le_of_ble_eq_true rfl) (fun x hl C O => ?_)
  show zW x G 0 0 0 [(0, .ref (qM 0)), (1, .int a0), (2, .int a1), (3, .int a2), (4, .int a3), (5, .int a4)] [] _
  unfold fM_copy at h
  refine z_aload_n C dX12_copy_0 0 rfl ?_
  refine z_iconst C 0 dX12_copy_1 (by decide) ?_
  refine rw_p_X12_107_M_M C dX12_copy_2 h (fun sM1 h => ?_)
  refine z_iload_n C dX12_copy_5 1 rfl ?_
  obtain ⟨y2, hy2, h⟩ := bind_o h
  refine rw_c_X12_122 C (Ct.frame0 (cM_isRow hy2)) dX12_copy_6 (Nat.le_of_ble_eq_true rfl) (zrm rfl) ?_
  refine z_ifb_eq C dX12_copy_9 19 (by decide) h (fun h => ?_) (fun h => ?_)
  · refine z_ldc2 C rw_u_1138 dX12_copy_19 ?_
    replace h := Option.some.inj h
    subst h
    exact z_lret C O dX12_copy_22 rfl rfl
  · refine z_iload_n C dX12_copy_12 3 rfl ?_
    obtain ⟨y3, hy3, h⟩ := bind_o h
    refine rw_c_X12_122 C (Ct.frame0 (cM_isRow hy3)) dX12_copy_13 (Nat.le_of_ble_eq_true rfl) (zrm rfl) ?_
    refine z_ifb_ne C dX12_copy_16 23 (by decide) h (fun h => ?_) (fun h => ?_)
    · refine z_aload_n C dX12_copy_23 0 rfl ?_
      refine z_iconst C 0 dX12_copy_24 (by decide) ?_
      refine rw_p_X12_111_M_M C dX12_copy_25 h (fun sM4 h => ?_)
      refine z_aload_n C dX12_copy_28 0 rfl ?_
      refine rw_g_X12_9_M_M C dX12_copy_29 ?_
      refine z_iload_n C dX12_copy_32 1 rfl ?_
      refine rw_l_M_M_2 C dX12_copy_33 h (fun h => ?_)
      refine z_if_lt C dX12_copy_34 46 (by decide) h (fun h => ?_) (fun h => ?_)
      · refine z_aload_n C dX12_copy_46 0 rfl ?_
        refine z_iconst C 1 dX12_copy_47 (by decide) ?_
        obtain ⟨y5, hy5, h⟩ := bind_o h
        refine rw_c_X12_130 C (cM_finding hy5) 0 rfl dX12_copy_48 (Nat.le_of_ble_eq_true rfl) (zrm rfl) ?_
        replace h := Option.some.inj h
        subst h
        exact z_lret C O dX12_copy_51 rfl rfl
      · refine z_aload_n C dX12_copy_37 0 rfl ?_
        refine rw_g_X12_9_M_M C dX12_copy_38 ?_
        refine z_iload_n C dX12_copy_41 3 rfl ?_
        refine rw_l_M_M_2 C dX12_copy_42 h (fun h => ?_)
        refine z_if_ge C dX12_copy_43 52 (by decide) h (fun h => ?_) (fun h => ?_)
        · refine z_aload_n C dX12_copy_52 0 rfl ?_
          refine rw_g_X12_9_M_M C dX12_copy_53 ?_
          refine z_iload_n C dX12_copy_56 1 rfl ?_
          refine rw_l_M_M_2 C dX12_copy_57 h (fun h => ?_)
          refine z_aload_n C dX12_copy_58 0 rfl ?_
          refine rw_g_X12_9_M_M C dX12_copy_59 ?_
          refine z_iload_n C dX12_copy_62 3 rfl ?_
          refine rw_l_M_M_2 C dX12_copy_63 h (fun h => ?_)
          refine z_icmp_eq C dX12_copy_64 73 (by decide) h (fun h => ?_) (fun h => ?_)
          · refine z_iload_n C dX12_copy_73 2 rfl ?_
            refine z_if_lt C dX12_copy_74 122 (by decide) h (fun h => ?_) (fun h => ?_)
            · refine z_aload_n C dX12_copy_122 0 rfl ?_
              refine z_iconst C 2 dX12_copy_123 (by decide) ?_
              obtain ⟨y6, hy6, h⟩ := bind_o h
              refine rw_c_X12_130 C (cM_finding hy6) 0 rfl dX12_copy_124 (Nat.le_of_ble_eq_true rfl) (zrm rfl) ?_
              replace h := Option.some.inj h
              subst h
              exact z_lret C O dX12_copy_127 rfl rfl
            · refine z_iload C dX12_copy_77 4 rfl ?_
              refine z_if_lt C dX12_copy_79 122 (by decide) h (fun h => ?_) (fun h => ?_)
              · refine z_aload_n C dX12_copy_122 0 rfl ?_
                refine z_iconst C 2 dX12_copy_123 (by decide) ?_
                obtain ⟨y7, hy7, h⟩ := bind_o h
                refine rw_c_X12_130 C (cM_finding hy7) 0 rfl dX12_copy_124 (Nat.le_of_ble_eq_true rfl) (zrm rfl) ?_
                replace h := Option.some.inj h
                subst h
                exact z_lret C O dX12_copy_127 rfl rfl
              · refine z_iload C dX12_copy_82 5 rfl ?_
                refine z_if_lt C dX12_copy_84 122 (by decide) h (fun h => ?_) (fun h => ?_)
                · refine z_aload_n C dX12_copy_122 0 rfl ?_
                  refine z_iconst C 2 dX12_copy_123 (by decide) ?_
                  obtain ⟨y8, hy8, h⟩ := bind_o h
                  refine rw_c_X12_130 C (cM_finding hy8) 0 rfl dX12_copy_124 (Nat.le_of_ble_eq_true rfl) (zrm rfl) ?_
                  replace h := Option.some.inj h
                  subst h
                  exact z_lret C O dX12_copy_127 rfl rfl
                · refine z_iload_n C dX12_copy_87 2 rfl ?_
                  refine z_i2l C dX12_copy_88 ?_
                  refine z_iload C dX12_copy_89 5 rfl ?_
                  refine z_i2l C dX12_copy_91 ?_
                  refine z_ladd C dX12_copy_92 ?_
                  refine z_aload_n C dX12_copy_93 0 rfl ?_
                  refine rw_g_X12_13_M_M C dX12_copy_94 ?_
                  refine z_iload_n C dX12_copy_97 1 rfl ?_
                  refine rw_l_M_M_3 C dX12_copy_98 h (fun h => ?_)
                  refine z_i2l C dX12_copy_99 ?_
                  refine z_lcmp_gt C dX12_copy_100 dX12_copy_101 122 (by decide) h (fun h => ?_) (fun h => ?_)
                  · refine z_aload_n C dX12_copy_122 0 rfl ?_
                    refine z_iconst C 2 dX12_copy_123 (by decide) ?_
                    obtain ⟨y9, hy9, h⟩ := bind_o h
                    refine rw_c_X12_130 C (cM_finding hy9) 0 rfl dX12_copy_124 (Nat.le_of_ble_eq_true rfl) (zrm rfl) ?_
                    replace h := Option.some.inj h
                    subst h
                    exact z_lret C O dX12_copy_127 rfl rfl
                  · refine z_iload C dX12_copy_104 4 rfl ?_
                    refine z_i2l C dX12_copy_106 ?_
                    refine z_iload C dX12_copy_107 5 rfl ?_
                    refine z_i2l C dX12_copy_109 ?_
                    refine z_ladd C dX12_copy_110 ?_
                    refine z_aload_n C dX12_copy_111 0 rfl ?_
                    refine rw_g_X12_13_M_M C dX12_copy_112 ?_
                    refine z_iload_n C dX12_copy_115 3 rfl ?_
                    refine rw_l_M_M_3 C dX12_copy_116 h (fun h => ?_)
                    refine z_i2l C dX12_copy_117 ?_
                    refine z_lcmp_le C dX12_copy_118 dX12_copy_119 128 (by decide) h (fun h => ?_) (fun h => ?_)
                    · refine z_iload_n C dX12_copy_128 2 rfl ?_
                      refine z_iload C dX12_copy_129 4 rfl ?_
                      refine z_icmp_lt C dX12_copy_131 138 (by decide) h (fun h => ?_) (fun h => ?_)
                      · refine z_iconst C 0 dX12_copy_138 (by decide) ?_
                        refine z_istore C dX12_copy_139 (by decide) (lvr := [(0, .ref (qM 0)), (1, .int a0), (2, .int a1), (3, .int a2), (4, .int a3), (5, .int a4)]) rfl ?_
                        refine z_iconst C 0 dX12_copy_141 (by decide) ?_
                        refine z_istore C dX12_copy_142 (by decide) (lvr := [(6, .int 0), (0, .ref (qM 0)), (1, .int a0), (2, .int a1), (3, .int a2), (4, .int a3), (5, .int a4)]) rfl ?_
                        refine z_perm [2, 3, 4, 5, 6, 7, 1, 0] (lv' := [(0, .ref (qM 0)), (1, .int a0), (2, .int a1), (3, .int a2), (4, .int a3), (5, .int a4), (6, .int 0), (7, .int 0)]) rfl ?_
                        exact kM_copy_l144 C O  zF h
                      · refine z_iconst C 1 dX12_copy_134 (by decide) ?_
                        refine z_goto C dX12_copy_135 139 (by decide) ?_
                        refine z_istore C dX12_copy_139 (by decide) (lvr := [(0, .ref (qM 0)), (1, .int a0), (2, .int a1), (3, .int a2), (4, .int a3), (5, .int a4)]) rfl ?_
                        refine z_iconst C 0 dX12_copy_141 (by decide) ?_
                        refine z_istore C dX12_copy_142 (by decide) (lvr := [(6, .int 1), (0, .ref (qM 0)), (1, .int a0), (2, .int a1), (3, .int a2), (4, .int a3), (5, .int a4)]) rfl ?_
                        refine z_perm [2, 3, 4, 5, 6, 7, 1, 0] (lv' := [(0, .ref (qM 0)), (1, .int a0), (2, .int a1), (3, .int a2), (4, .int a3), (5, .int a4), (6, .int 1), (7, .int 0)]) rfl ?_
                        exact kM_copy_l144 C O  zF h
                    · refine z_aload_n C dX12_copy_122 0 rfl ?_
                      refine z_iconst C 2 dX12_copy_123 (by decide) ?_
                      obtain ⟨y12, hy12, h⟩ := bind_o h
                      refine rw_c_X12_130 C (cM_finding hy12) 0 rfl dX12_copy_124 (Nat.le_of_ble_eq_true rfl) (zrm rfl) ?_
                      replace h := Option.some.inj h
                      subst h
                      exact z_lret C O dX12_copy_127 rfl rfl
          · refine z_aload_n C dX12_copy_67 0 rfl ?_
            refine z_iconst C 5 dX12_copy_68 (by decide) ?_
            obtain ⟨y13, hy13, h⟩ := bind_o h
            refine rw_c_X12_130 C (cM_finding hy13) 0 rfl dX12_copy_69 (Nat.le_of_ble_eq_true rfl) (zrm rfl) ?_
            replace h := Option.some.inj h
            subst h
            exact z_lret C O dX12_copy_72 rfl rfl
        · refine z_aload_n C dX12_copy_46 0 rfl ?_
          refine z_iconst C 1 dX12_copy_47 (by decide) ?_
          obtain ⟨y14, hy14, h⟩ := bind_o h
          refine rw_c_X12_130 C (cM_finding hy14) 0 rfl dX12_copy_48 (Nat.le_of_ble_eq_true rfl) (zrm rfl) ?_
          replace h := Option.some.inj h
          subst h
          exact z_lret C O dX12_copy_51 rfl rfl
    · refine z_ldc2 C rw_u_1138 dX12_copy_19 ?_
      replace h := Option.some.inj h
      subst h
      exact z_lret C O dX12_copy_22 rfl rfl
set_option maxHeartbeats 4000000 in
set_option maxRecDepth 100000 in
theorem cM_drop {l : Launch} {G : zG} {qM : Nat → Nat} {sM : zSt} {a0 : Int32} {out : Int64 × zSt} (h : fM_drop sM a0 = some out) : Ct l G yX12_drop cX12_drop 2 (some .long) rmX12_drop [.ref (qM 0), .int a0] (wdM G qM sM) (some (.long out.1)) (wdM G qM out.2) := by
  refine zMet (own := RX12) rfl (by decide) (Nat.le_of_ble_eq_true rfl) (fun x hl C O => ?_)
  show zW x G 0 0 0 [(0, .ref (qM 0)), (1, .int a0)] [] _
  unfold fM_drop at h
  refine z_aload_n C dX12_drop_0 0 rfl ?_
  refine z_iconst C 0 dX12_drop_1 (by decide) ?_
  refine rw_p_X12_107_M_M C dX12_drop_2 h (fun sM1 h => ?_)
  refine z_iload_n C dX12_drop_5 1 rfl ?_
  obtain ⟨y2, hy2, h⟩ := bind_o h
  refine rw_c_X12_122 C (Ct.frame0 (cM_isRow hy2)) dX12_drop_6 (Nat.le_of_ble_eq_true rfl) (zrm rfl) ?_
  refine z_ifb_ne C dX12_drop_9 16 (by decide) h (fun h => ?_) (fun h => ?_)
  · refine z_aload_n C dX12_drop_16 0 rfl ?_
    refine z_iconst C 0 dX12_drop_17 (by decide) ?_
    refine rw_p_X12_111_M_M C dX12_drop_18 h (fun sM3 h => ?_)
    refine z_aload_n C dX12_drop_21 0 rfl ?_
    refine rw_g_X12_9_M_M C dX12_drop_22 ?_
    refine z_iload_n C dX12_drop_25 1 rfl ?_
    refine rw_l_M_M_2 C dX12_drop_26 h (fun h => ?_)
    refine z_if_ge C dX12_drop_27 36 (by decide) h (fun h => ?_) (fun h => ?_)
    · refine z_aload_n C dX12_drop_36 0 rfl ?_
      refine rw_g_X12_9_M_M C dX12_drop_37 ?_
      refine z_iload_n C dX12_drop_40 1 rfl ?_
      refine z_iconst C (-1) dX12_drop_41 (by decide) ?_
      refine rw_s_M_M_2 C dX12_drop_42 h (fun sM4 h => ?_)
      refine z_aload_n C dX12_drop_43 0 rfl ?_
      refine rw_g_X12_13_M_M C dX12_drop_44 ?_
      refine z_iload_n C dX12_drop_47 1 rfl ?_
      refine rw_l_M_M_3 C dX12_drop_48 h (fun h => ?_)
      refine z_i2l C dX12_drop_49 ?_
      replace h := Option.some.inj h
      subst h
      exact z_lret C O dX12_drop_50 rfl rfl
    · refine z_aload_n C dX12_drop_30 0 rfl ?_
      refine z_iconst C 1 dX12_drop_31 (by decide) ?_
      obtain ⟨y5, hy5, h⟩ := bind_o h
      refine rw_c_X12_130 C (cM_finding hy5) 0 rfl dX12_drop_32 (Nat.le_of_ble_eq_true rfl) (zrm rfl) ?_
      replace h := Option.some.inj h
      subst h
      exact z_lret C O dX12_drop_35 rfl rfl
  · refine z_ldc2 C rw_u_1138 dX12_drop_12 ?_
    replace h := Option.some.inj h
    subst h
    exact z_lret C O dX12_drop_15 rfl rfl
set_option maxHeartbeats 4000000 in
set_option maxRecDepth 100000 in
theorem kM_feed_l42b {x : zX} {G : zG} {qM : Nat → Nat}  {out : Int64 × zSt} (C : zC x G RX12 cX12_feed 5 (some .long) rmX12_feed) (O : zO x G (some (.long out.1)) (wdM G qM out.2) 0 0) {K42 : zSt → Int64 → Int32 → Option (Int64 × zSt)} (hK42 : ∀ (sM : zSt) (x1 : Int64) (x4 : Int32), K42 sM x1 x4 = some out → zW x G 0 0 42 [(0, .ref (qM 0)), (1, .long x1), (4, .int x4)] [] (wdM G qM sM)) {sM : zSt} {x1 : Int64} {x4 : Int32} (h : fM_feed_l42b K42 sM x1 x4 = some out) : zW x G 0 0 42 [(0, .ref (qM 0)), (1, .long x1), (4, .int x4)] [] (wdM G qM sM) := by
  unfold fM_feed_l42b at h
  refine z_iload C dX12_feed_42 2 rfl ?_
  refine z_if_lt C dX12_feed_44 84 (by decide) h (fun h => ?_) (fun h => ?_)
  · refine z_aload_n C dX12_feed_84 0 rfl ?_
    refine rw_g_X12_136_M_M C dX12_feed_85 ?_
    refine z_i2l C dX12_feed_88 ?_
    replace h := Option.some.inj h
    subst h
    exact z_lret C O dX12_feed_89 rfl rfl
  · refine z_aload_n C dX12_feed_47 0 rfl ?_
    refine rw_g_X12_31_M_M C dX12_feed_48 ?_
    refine z_aload_n C dX12_feed_51 0 rfl ?_
    refine rw_g_X12_136_M_M C dX12_feed_52 ?_
    refine z_lload_n C dX12_feed_55 1 rfl ?_
    refine z_bipush C 8 dX12_feed_56 (by decide) ?_
    refine z_iload C dX12_feed_58 2 rfl ?_
    refine z_imul C dX12_feed_60 ?_
    refine z_lshr C dX12_feed_61 ?_
    refine z_ldc2 C rw_u_1162 dX12_feed_62 ?_
    refine z_land C dX12_feed_65 ?_
    refine z_l2i C dX12_feed_66 ?_
    refine rw_s_M_M_16 C dX12_feed_67 h (fun sM4 h => ?_)
    refine z_aload_n C dX12_feed_68 0 rfl ?_
    refine z_dup C dX12_feed_69 rfl ?_
    refine rw_g_X12_136_M_M C dX12_feed_70 ?_
    refine z_iconst C 1 dX12_feed_73 (by decide) ?_
    refine z_iadd C dX12_feed_74 ?_
    refine rw_p_X12_136_M_M C dX12_feed_75 h (fun sM5 h => ?_)
    refine z_iinc C dX12_feed_78 2 rfl (-1) (by decide) (by decide) (lvr := [(0, .ref (qM 0)), (1, .long x1)]) rfl h (fun x4_6 h => ?_)
    refine z_goto C dX12_feed_81 42 (by decide) ?_
    refine z_perm [1, 2, 0] (lv' := [(0, .ref (qM 0)), (1, .long x1), (4, .int x4_6)]) rfl ?_
    exact hK42 _  _ _ h
set_option maxHeartbeats 4000000 in
set_option maxRecDepth 100000 in
theorem kM_feed_l42 {x : zX} {G : zG} {qM : Nat → Nat}  {out : Int64 × zSt} (C : zC x G RX12 cX12_feed 5 (some .long) rmX12_feed) (O : zO x G (some (.long out.1)) (wdM G qM out.2) 0 0)  : ∀ (n : Nat) {sM : zSt} {x1 : Int64} {x4 : Int32}, fM_feed_l42  n sM x1 x4 = some out → zW x G 0 0 42 [(0, .ref (qM 0)), (1, .long x1), (4, .int x4)] [] (wdM G qM sM) := by
  intro n
  induction n with
  | zero =>
    intro sM x1 x4 h
    have h : (none : Option (Int64 × zSt)) = some out := h
    cases h
  | succ n ih =>
    intro sM x1 x4 h
    exact kM_feed_l42b C O (K42 := fun v0 v1 v2 => fM_feed_l42  n v0 v1 v2) (fun sM x1 x4 h => ih h) h
set_option maxHeartbeats 4000000 in
set_option maxRecDepth 100000 in
theorem cM_feed {l : Launch} {G : zG} {qM : Nat → Nat} {sM : zSt} {a0 : Int64} {a1 : Int32} {out : Int64 × zSt} (h : fM_feed sM a0 a1 = some out) : Ct l G yX12_feed cX12_feed 5 (some .long) rmX12_feed [.ref (qM 0), .long a0, .int a1] (wdM G qM sM) (some (.long out.1)) (wdM G qM out.2) := by
  refine zMet (own := RX12) rfl (by decide) (Nat.le_of_ble_eq_true rfl) (fun x hl C O => ?_)
  show zW x G 0 0 0 [(0, .ref (qM 0)), (1, .long a0), (3, .int a1)] [] _
  unfold fM_feed at h
  refine z_aload_n C dX12_feed_0 0 rfl ?_
  refine z_iconst C 0 dX12_feed_1 (by decide) ?_
  refine rw_p_X12_107_M_M C dX12_feed_2 h (fun sM1 h => ?_)
  refine z_iload_n C dX12_feed_5 2 rfl ?_
  refine z_i2l C dX12_feed_6 ?_
  refine z_lconst C 1 dX12_feed_7 (by decide) ?_
  refine z_ldc2 C rw_u_1160 dX12_feed_8 ?_
  obtain ⟨y2, hy2, h⟩ := bind_o h
  refine rw_c_X12_118 C (Ct.frame0 (cM_in hy2)) dX12_feed_11 (Nat.le_of_ble_eq_true rfl) (zrm rfl) ?_
  refine z_ifb_ne C dX12_feed_14 21 (by decide) h (fun h => ?_) (fun h => ?_)
  · refine z_aload_n C dX12_feed_21 0 rfl ?_
    refine rw_g_X12_136_M_M C dX12_feed_22 ?_
    refine z_iload_n C dX12_feed_25 2 rfl ?_
    refine z_iadd C dX12_feed_26 ?_
    refine z_sipush C 500 dX12_feed_27 (by decide) ?_
    refine z_icmp_le C dX12_feed_30 37 (by decide) h (fun h => ?_) (fun h => ?_)
    · refine z_iload_n C dX12_feed_37 2 rfl ?_
      refine z_iconst C 1 dX12_feed_38 (by decide) ?_
      refine z_isub C dX12_feed_39 ?_
      refine z_istoreN C dX12_feed_40 (by decide) (lvr := [(0, .ref (qM 0)), (1, .long a0), (3, .int a1)]) rfl h (fun x4_3 h => ?_)
      refine z_perm [1, 2, 0] (lv' := [(0, .ref (qM 0)), (1, .long a0), (4, .int x4_3)]) rfl ?_
      exact kM_feed_l42 C O  zF h
    · refine z_ldc2 C rw_u_1161 dX12_feed_33 ?_
      replace h := Option.some.inj h
      subst h
      exact z_lret C O dX12_feed_36 rfl rfl
  · refine z_ldc2 C rw_u_1138 dX12_feed_17 ?_
    replace h := Option.some.inj h
    subst h
    exact z_lret C O dX12_feed_20 rfl rfl
set_option maxHeartbeats 4000000 in
set_option maxRecDepth 100000 in
theorem cM_byteAt {l : Launch} {G : zG} {qM : Nat → Nat} {sM : zSt} {a0 : Int32} {out : Int32} (h : fM_byteAt sM a0 = some out) : Ct l G yX12_byteAt cX12_byteAt 2 (some .int) rmX12_byteAt [.ref (qM 0), .int a0] (wdM G qM sM) (some (.int out)) (wdM G qM sM) := by
  refine zMet (own := RX12) rfl (by decide) (Nat.le_of_ble_eq_true rfl) (fun x hl C O => ?_)
  show zW x G 0 0 0 [(0, .ref (qM 0)), (1, .int a0)] [] _
  unfold fM_byteAt at h
  refine z_iload_n C dX12_byteAt_0 1 rfl ?_
  refine z_aload_n C dX12_byteAt_1 0 rfl ?_
  refine rw_g_X12_143_M_M C dX12_byteAt_2 ?_
  refine z_icmp_ge C dX12_byteAt_5 17 (by decide) h (fun h => ?_) (fun h => ?_)
  · refine z_ldc C rw_u_1175 dX12_byteAt_17 ?_
    replace h := Option.some.inj h
    subst h
    exact z_iret C O dX12_byteAt_19 rfl rfl
  · refine z_aload_n C dX12_byteAt_8 0 rfl ?_
    refine rw_g_X12_31_M_M C dX12_byteAt_9 ?_
    refine z_iload_n C dX12_byteAt_12 1 rfl ?_
    refine rw_l_M_M_16 C dX12_byteAt_13 h (fun h => ?_)
    refine z_goto C dX12_byteAt_14 19 (by decide) ?_
    replace h := Option.some.inj h
    subst h
    exact z_iret C O dX12_byteAt_19 rfl rfl
set_option maxHeartbeats 4000000 in
set_option maxRecDepth 100000 in
theorem cM_isLetter {l : Launch} {G : zG}   {a0 : Int32} {out : Bool} (h : fM_isLetter  a0 = some out) : Ct l G yX12_isLetter cX12_isLetter 1 (some .boolean) rmX12_isLetter [.int a0] ([]) (some (.int (zb out))) ([]) := by
  refine zMet (own := RX12) rfl (by decide) (Nat.le_of_ble_eq_true rfl) (fun x hl C O => ?_)
  show zW x G 0 0 0 [(0, .int a0)] [] _
  unfold fM_isLetter at h
  refine z_iload_n C dX12_isLetter_0 0 rfl ?_
  refine z_bipush C 97 dX12_isLetter_1 (by decide) ?_
  refine z_icmp_lt C dX12_isLetter_3 16 (by decide) h (fun h => ?_) (fun h => ?_)
  · refine z_iconst C 0 dX12_isLetter_16 (by decide) ?_
    replace h := Option.some.inj h
    subst h
    exact z_zret C O dX12_isLetter_17 (zb_nar false) rfl rfl
  · refine z_iload_n C dX12_isLetter_6 0 rfl ?_
    refine z_bipush C 122 dX12_isLetter_7 (by decide) ?_
    refine z_icmp_gt C dX12_isLetter_9 16 (by decide) h (fun h => ?_) (fun h => ?_)
    · refine z_iconst C 0 dX12_isLetter_16 (by decide) ?_
      replace h := Option.some.inj h
      subst h
      exact z_zret C O dX12_isLetter_17 (zb_nar false) rfl rfl
    · refine z_iconst C 1 dX12_isLetter_12 (by decide) ?_
      refine z_goto C dX12_isLetter_13 17 (by decide) ?_
      replace h := Option.some.inj h
      subst h
      exact z_zret C O dX12_isLetter_17 (zb_nar true) rfl rfl
set_option maxHeartbeats 4000000 in
set_option maxRecDepth 100000 in
theorem cM_isFigure {l : Launch} {G : zG}   {a0 : Int32} {out : Bool} (h : fM_isFigure  a0 = some out) : Ct l G yX12_isFigure cX12_isFigure 1 (some .boolean) rmX12_isFigure [.int a0] ([]) (some (.int (zb out))) ([]) := by
  refine zMet (own := RX12) rfl (by decide) (Nat.le_of_ble_eq_true rfl) (fun x hl C O => ?_)
  show zW x G 0 0 0 [(0, .int a0)] [] _
  unfold fM_isFigure at h
  refine z_iload_n C dX12_isFigure_0 0 rfl ?_
  refine z_bipush C 48 dX12_isFigure_1 (by decide) ?_
  refine z_icmp_lt C dX12_isFigure_3 16 (by decide) h (fun h => ?_) (fun h => ?_)
  · refine z_iconst C 0 dX12_isFigure_16 (by decide) ?_
    replace h := Option.some.inj h
    subst h
    exact z_zret C O dX12_isFigure_17 (zb_nar false) rfl rfl
  · refine z_iload_n C dX12_isFigure_6 0 rfl ?_
    refine z_bipush C 57 dX12_isFigure_7 (by decide) ?_
    refine z_icmp_gt C dX12_isFigure_9 16 (by decide) h (fun h => ?_) (fun h => ?_)
    · refine z_iconst C 0 dX12_isFigure_16 (by decide) ?_
      replace h := Option.some.inj h
      subst h
      exact z_zret C O dX12_isFigure_17 (zb_nar false) rfl rfl
    · refine z_iconst C 1 dX12_isFigure_12 (by decide) ?_
      refine z_goto C dX12_isFigure_13 17 (by decide) ?_
      replace h := Option.some.inj h
      subst h
      exact z_zret C O dX12_isFigure_17 (zb_nar true) rfl rfl
set_option maxHeartbeats 4000000 in
set_option maxRecDepth 100000 in
theorem kM_next_b26 {x : zX} {G : zG} {qM : Nat → Nat}  {out : zSt} (C : zC x G RX12 cX12_next 2 none rmX12_next) (O : zO x G none (wdM G qM out) 0 0) {K0 : zSt → Option (zSt)} (hK0 : ∀ (sM : zSt) , K0 sM  = some out → zW x G 0 0 0 [(0, .ref (qM 0))] [] (wdM G qM sM)) {sM : zSt}  (h : fM_next_b26 K0 sM  = some out) : zW x G 0 0 26 [(0, .ref (qM 0))] [] (wdM G qM sM) := by
  unfold fM_next_b26 at h
  refine z_aload_n C dX12_next_26 0 rfl ?_
  refine z_dup C dX12_next_27 rfl ?_
  refine rw_g_X12_147_M_M C dX12_next_28 ?_
  refine z_iconst C 1 dX12_next_31 (by decide) ?_
  refine z_iadd C dX12_next_32 ?_
  refine rw_p_X12_147_M_M C dX12_next_33 h (fun sM2 h => ?_)
  refine z_goto C dX12_next_36 0 (by decide) ?_
  exact hK0 _   h
set_option maxHeartbeats 4000000 in
set_option maxRecDepth 100000 in
theorem kM_next_b196 {x : zX} {G : zG} {qM : Nat → Nat}  {out : zSt} (C : zC x G RX12 cX12_next 2 none rmX12_next) (O : zO x G none (wdM G qM out) 0 0)  {sM : zSt}  (h : fM_next_b196  sM  = some out) : zW x G 0 0 196 [(0, .ref (qM 0))] [] (wdM G qM sM) := by
  unfold fM_next_b196 at h
  refine z_aload_n C dX12_next_196 0 rfl ?_
  refine z_aload_n C dX12_next_197 0 rfl ?_
  refine rw_g_X12_147_M_M C dX12_next_198 ?_
  refine rw_p_X12_166_M_M C dX12_next_201 h (fun sM10 h => ?_)
  replace h := Option.some.inj h
  subst h
  exact z_vret C O dX12_next_204 rfl rfl
set_option maxHeartbeats 4000000 in
set_option maxRecDepth 100000 in
theorem kM_next_l119b {x : zX} {G : zG} {qM : Nat → Nat}  {out : zSt} (C : zC x G RX12 cX12_next 2 none rmX12_next) (O : zO x G none (wdM G qM out) 0 0) {K119 : zSt → Option (zSt)} (hK119 : ∀ (sM : zSt) , K119 sM  = some out → zW x G 0 0 119 [(0, .ref (qM 0))] [] (wdM G qM sM)) {sM : zSt}  (h : fM_next_l119b K119 sM  = some out) : zW x G 0 0 119 [(0, .ref (qM 0))] [] (wdM G qM sM) := by
  unfold fM_next_l119b at h
  refine z_aload_n C dX12_next_119 0 rfl ?_
  refine z_aload_n C dX12_next_120 0 rfl ?_
  refine rw_g_X12_147_M_M C dX12_next_121 ?_
  obtain ⟨y12, hy12, h⟩ := bind_o h
  refine rw_c_X12_150 C (cM_byteAt hy12) 0 rfl dX12_next_124 (Nat.le_of_ble_eq_true rfl) (zrm rfl) ?_
  obtain ⟨y13, hy13, h⟩ := bind_o h
  refine rw_c_X12_163 C (Ct.frame0 (cM_isFigure hy13)) dX12_next_127 (Nat.le_of_ble_eq_true rfl) (zrm rfl) ?_
  refine z_ifb_eq C dX12_next_130 146 (by decide) h (fun h => ?_) (fun h => ?_)
  · refine z_aload_n C dX12_next_146 0 rfl ?_
    refine z_aload_n C dX12_next_147 0 rfl ?_
    refine rw_g_X12_147_M_M C dX12_next_148 ?_
    refine z_aload_n C dX12_next_151 0 rfl ?_
    refine rw_g_X12_154_M_M C dX12_next_152 ?_
    refine z_isub C dX12_next_155 ?_
    refine z_iconst C 3 dX12_next_156 (by decide) ?_
    refine z_icmp_le C dX12_next_157 164 (by decide) h (fun h => ?_) (fun h => ?_)
    · refine z_iconst C 3 dX12_next_164 (by decide) ?_
      refine rw_p_X12_157_M_M C dX12_next_165 h (fun sM14 h => ?_)
      refine z_goto C dX12_next_168 196 (by decide) ?_
      exact kM_next_b196 C O  h
    · refine z_iconst C 0 dX12_next_160 (by decide) ?_
      refine z_goto C dX12_next_161 165 (by decide) ?_
      refine rw_p_X12_157_M_M C dX12_next_165 h (fun sM15 h => ?_)
      refine z_goto C dX12_next_168 196 (by decide) ?_
      exact kM_next_b196 C O  h
  · refine z_aload_n C dX12_next_133 0 rfl ?_
    refine z_dup C dX12_next_134 rfl ?_
    refine rw_g_X12_147_M_M C dX12_next_135 ?_
    refine z_iconst C 1 dX12_next_138 (by decide) ?_
    refine z_iadd C dX12_next_139 ?_
    refine rw_p_X12_147_M_M C dX12_next_140 h (fun sM16 h => ?_)
    refine z_goto C dX12_next_143 119 (by decide) ?_
    exact hK119 _   h
set_option maxHeartbeats 4000000 in
set_option maxRecDepth 100000 in
theorem kM_next_l119 {x : zX} {G : zG} {qM : Nat → Nat}  {out : zSt} (C : zC x G RX12 cX12_next 2 none rmX12_next) (O : zO x G none (wdM G qM out) 0 0)  : ∀ (n : Nat) {sM : zSt} , fM_next_l119  n sM  = some out → zW x G 0 0 119 [(0, .ref (qM 0))] [] (wdM G qM sM) := by
  intro n
  induction n with
  | zero =>
    intro sM  h
    have h : (none : Option (zSt)) = some out := h
    cases h
  | succ n ih =>
    intro sM  h
    exact kM_next_l119b C O (K119 := fun v0 => fM_next_l119  n v0) (fun sM  h => ih h) h
set_option maxHeartbeats 4000000 in
set_option maxRecDepth 100000 in
theorem kM_next_l77b {x : zX} {G : zG} {qM : Nat → Nat}  {out : zSt} (C : zC x G RX12 cX12_next 2 none rmX12_next) (O : zO x G none (wdM G qM out) 0 0) {K77 : zSt → Option (zSt)} (hK77 : ∀ (sM : zSt) , K77 sM  = some out → zW x G 0 0 77 [(0, .ref (qM 0))] [] (wdM G qM sM)) {sM : zSt}  (h : fM_next_l77b K77 sM  = some out) : zW x G 0 0 77 [(0, .ref (qM 0))] [] (wdM G qM sM) := by
  unfold fM_next_l77b at h
  refine z_aload_n C dX12_next_77 0 rfl ?_
  refine z_aload_n C dX12_next_78 0 rfl ?_
  refine rw_g_X12_147_M_M C dX12_next_79 ?_
  obtain ⟨y17, hy17, h⟩ := bind_o h
  refine rw_c_X12_150 C (cM_byteAt hy17) 0 rfl dX12_next_82 (Nat.le_of_ble_eq_true rfl) (zrm rfl) ?_
  obtain ⟨y18, hy18, h⟩ := bind_o h
  refine rw_c_X12_160 C (Ct.frame0 (cM_isLetter hy18)) dX12_next_85 (Nat.le_of_ble_eq_true rfl) (zrm rfl) ?_
  refine z_ifb_eq C dX12_next_88 104 (by decide) h (fun h => ?_) (fun h => ?_)
  · refine z_aload_n C dX12_next_104 0 rfl ?_
    refine z_iconst C 2 dX12_next_105 (by decide) ?_
    refine rw_p_X12_157_M_M C dX12_next_106 h (fun sM19 h => ?_)
    refine z_goto C dX12_next_109 196 (by decide) ?_
    exact kM_next_b196 C O  h
  · refine z_aload_n C dX12_next_91 0 rfl ?_
    refine z_dup C dX12_next_92 rfl ?_
    refine rw_g_X12_147_M_M C dX12_next_93 ?_
    refine z_iconst C 1 dX12_next_96 (by decide) ?_
    refine z_iadd C dX12_next_97 ?_
    refine rw_p_X12_147_M_M C dX12_next_98 h (fun sM20 h => ?_)
    refine z_goto C dX12_next_101 77 (by decide) ?_
    exact hK77 _   h
set_option maxHeartbeats 4000000 in
set_option maxRecDepth 100000 in
theorem kM_next_l77 {x : zX} {G : zG} {qM : Nat → Nat}  {out : zSt} (C : zC x G RX12 cX12_next 2 none rmX12_next) (O : zO x G none (wdM G qM out) 0 0)  : ∀ (n : Nat) {sM : zSt} , fM_next_l77  n sM  = some out → zW x G 0 0 77 [(0, .ref (qM 0))] [] (wdM G qM sM) := by
  intro n
  induction n with
  | zero =>
    intro sM  h
    have h : (none : Option (zSt)) = some out := h
    cases h
  | succ n ih =>
    intro sM  h
    exact kM_next_l77b C O (K77 := fun v0 => fM_next_l77  n v0) (fun sM  h => ih h) h
set_option maxHeartbeats 4000000 in
set_option maxRecDepth 100000 in
theorem kM_next_l0b {x : zX} {G : zG} {qM : Nat → Nat}  {out : zSt} (C : zC x G RX12 cX12_next 2 none rmX12_next) (O : zO x G none (wdM G qM out) 0 0) {K0 : zSt → Option (zSt)} (hK0 : ∀ (sM : zSt) , K0 sM  = some out → zW x G 0 0 0 [(0, .ref (qM 0))] [] (wdM G qM sM)) {sM : zSt}  (h : fM_next_l0b K0 sM  = some out) : zW x G 0 0 0 [(0, .ref (qM 0))] [] (wdM G qM sM) := by
  unfold fM_next_l0b at h
  refine z_aload_n C dX12_next_0 0 rfl ?_
  refine z_aload_n C dX12_next_1 0 rfl ?_
  refine rw_g_X12_147_M_M C dX12_next_2 ?_
  obtain ⟨y1, hy1, h⟩ := bind_o h
  refine rw_c_X12_150 C (cM_byteAt hy1) 0 rfl dX12_next_5 (Nat.le_of_ble_eq_true rfl) (zrm rfl) ?_
  refine z_bipush C 32 dX12_next_8 (by decide) ?_
  refine z_icmp_eq C dX12_next_10 26 (by decide) h (fun h => ?_) (fun h => ?_)
  · exact kM_next_b26 C O hK0 h
  · refine z_aload_n C dX12_next_13 0 rfl ?_
    refine z_aload_n C dX12_next_14 0 rfl ?_
    refine rw_g_X12_147_M_M C dX12_next_15 ?_
    obtain ⟨y3, hy3, h⟩ := bind_o h
    refine rw_c_X12_150 C (cM_byteAt hy3) 0 rfl dX12_next_18 (Nat.le_of_ble_eq_true rfl) (zrm rfl) ?_
    refine z_bipush C 10 dX12_next_21 (by decide) ?_
    refine z_icmp_ne C dX12_next_23 39 (by decide) h (fun h => ?_) (fun h => ?_)
    · refine z_aload_n C dX12_next_39 0 rfl ?_
      refine z_aload_n C dX12_next_40 0 rfl ?_
      refine rw_g_X12_147_M_M C dX12_next_41 ?_
      refine rw_p_X12_154_M_M C dX12_next_44 h (fun sM4 h => ?_)
      refine z_aload_n C dX12_next_47 0 rfl ?_
      refine z_aload_n C dX12_next_48 0 rfl ?_
      refine rw_g_X12_147_M_M C dX12_next_49 ?_
      obtain ⟨y5, hy5, h⟩ := bind_o h
      refine rw_c_X12_150 C (cM_byteAt hy5) 0 rfl dX12_next_52 (Nat.le_of_ble_eq_true rfl) (zrm rfl) ?_
      refine z_istore_n C dX12_next_55 (by decide) (lvr := [(0, .ref (qM 0))]) rfl ?_
      refine z_iload_n C dX12_next_56 0 rfl ?_
      refine z_ldc C rw_u_1175 dX12_next_57 ?_
      refine z_icmp_ne C dX12_next_59 70 (by decide) h (fun h => ?_) (fun h => ?_)
      · refine z_iload_n C dX12_next_70 0 rfl ?_
        obtain ⟨y6, hy6, h⟩ := bind_o h
        refine rw_c_X12_160 C (Ct.frame0 (cM_isLetter hy6)) dX12_next_71 (Nat.le_of_ble_eq_true rfl) (zrm rfl) ?_
        refine z_ifb_eq C dX12_next_74 112 (by decide) h (fun h => ?_) (fun h => ?_)
        · refine z_iload_n C dX12_next_112 0 rfl ?_
          obtain ⟨y7, hy7, h⟩ := bind_o h
          refine rw_c_X12_163 C (Ct.frame0 (cM_isFigure hy7)) dX12_next_113 (Nat.le_of_ble_eq_true rfl) (zrm rfl) ?_
          refine z_ifb_eq C dX12_next_116 171 (by decide) h (fun h => ?_) (fun h => ?_)
          · refine z_aload_n C dX12_next_171 1 rfl ?_
            refine z_dup C dX12_next_172 rfl ?_
            refine rw_g_X12_147_M_M C dX12_next_173 ?_
            refine z_iconst C 1 dX12_next_176 (by decide) ?_
            refine z_iadd C dX12_next_177 ?_
            refine rw_p_X12_147_M_M C dX12_next_178 h (fun sM8 h => ?_)
            refine z_aload_n C dX12_next_181 1 rfl ?_
            refine z_iload_n C dX12_next_182 0 rfl ?_
            refine z_bipush C 59 dX12_next_183 (by decide) ?_
            refine z_icmp_ne C dX12_next_185 192 (by decide) h (fun h => ?_) (fun h => ?_)
            · refine z_iconst C 0 dX12_next_192 (by decide) ?_
              refine rw_p_X12_157_M_M C dX12_next_193 h (fun sM9 h => ?_)
              refine z_perm [1] (lv' := [(0, .ref (qM 0))]) rfl ?_
              exact kM_next_b196 C O  h
            · refine z_iconst C 4 dX12_next_188 (by decide) ?_
              refine z_goto C dX12_next_189 193 (by decide) ?_
              refine rw_p_X12_157_M_M C dX12_next_193 h (fun sM11 h => ?_)
              refine z_perm [1] (lv' := [(0, .ref (qM 0))]) rfl ?_
              exact kM_next_b196 C O  h
          · refine z_perm [1] (lv' := [(0, .ref (qM 0))]) rfl ?_
            exact kM_next_l119 C O  zF h
        · refine z_perm [1] (lv' := [(0, .ref (qM 0))]) rfl ?_
          exact kM_next_l77 C O  zF h
      · refine z_aload_n C dX12_next_62 1 rfl ?_
        refine z_iconst C 1 dX12_next_63 (by decide) ?_
        refine rw_p_X12_157_M_M C dX12_next_64 h (fun sM21 h => ?_)
        refine z_goto C dX12_next_67 196 (by decide) ?_
        refine z_perm [1] (lv' := [(0, .ref (qM 0))]) rfl ?_
        exact kM_next_b196 C O  h
    · exact kM_next_b26 C O hK0 h
set_option maxHeartbeats 4000000 in
set_option maxRecDepth 100000 in
theorem kM_next_l0 {x : zX} {G : zG} {qM : Nat → Nat}  {out : zSt} (C : zC x G RX12 cX12_next 2 none rmX12_next) (O : zO x G none (wdM G qM out) 0 0)  : ∀ (n : Nat) {sM : zSt} , fM_next_l0  n sM  = some out → zW x G 0 0 0 [(0, .ref (qM 0))] [] (wdM G qM sM) := by
  intro n
  induction n with
  | zero =>
    intro sM  h
    have h : (none : Option (zSt)) = some out := h
    cases h
  | succ n ih =>
    intro sM  h
    exact kM_next_l0b C O (K0 := fun v0 => fM_next_l0  n v0) (fun sM  h => ih h) h
set_option maxHeartbeats 4000000 in
set_option maxRecDepth 100000 in
theorem cM_next {l : Launch} {G : zG} {qM : Nat → Nat} {sM : zSt}  {out : zSt} (h : fM_next sM  = some out) : Ct l G yX12_next cX12_next 2 none rmX12_next [.ref (qM 0)] (wdM G qM sM) none (wdM G qM out) := by
  refine zMet (own := RX12) rfl (by decide) (Nat.le_of_ble_eq_true rfl) (fun x hl C O => ?_)
  show zW x G 0 0 0 [(0, .ref (qM 0))] [] _
  unfold fM_next at h
  exact kM_next_l0 C O  zF h
set_option maxHeartbeats 4000000 in
set_option maxRecDepth 100000 in
theorem cM_bad {l : Launch} {G : zG} {qM : Nat → Nat} {sM : zSt} {a0 : Int32} {out : zSt} (h : fM_bad sM a0 = some out) : Ct l G yX12_bad cX12_bad 2 none rmX12_bad [.ref (qM 0), .int a0] (wdM G qM sM) none (wdM G qM out) := by
  refine zMet (own := RX12) rfl (by decide) (Nat.le_of_ble_eq_true rfl) (fun x hl C O => ?_)
  show zW x G 0 0 0 [(0, .ref (qM 0)), (1, .int a0)] [] _
  unfold fM_bad at h
  refine z_aload_n C dX12_bad_0 0 rfl ?_
  refine rw_g_X12_169_M_M C dX12_bad_1 ?_
  refine z_if_ne C dX12_bad_4 20 (by decide) h (fun h => ?_) (fun h => ?_)
  · replace h := Option.some.inj h
    subst h
    exact z_vret C O dX12_bad_20 rfl rfl
  · refine z_aload_n C dX12_bad_7 0 rfl ?_
    refine z_iload_n C dX12_bad_8 1 rfl ?_
    refine rw_p_X12_169_M_M C dX12_bad_9 h (fun sM1 h => ?_)
    refine z_aload_n C dX12_bad_12 0 rfl ?_
    refine z_aload_n C dX12_bad_13 0 rfl ?_
    refine rw_g_X12_154_M_M C dX12_bad_14 ?_
    refine rw_p_X12_172_M_M C dX12_bad_17 h (fun sM2 h => ?_)
    replace h := Option.some.inj h
    subst h
    exact z_vret C O dX12_bad_20 rfl rfl
set_option maxHeartbeats 4000000 in
set_option maxRecDepth 100000 in
theorem kM_must_b9 {x : zX} {G : zG} {qM : Nat → Nat}  {out : zSt} (C : zC x G RX12 cX12_must 2 none rmX12_must) (O : zO x G none (wdM G qM out) 0 0)  {sM : zSt}  (h : fM_must_b9  sM  = some out) : zW x G 0 0 9 [(0, .ref (qM 0))] [] (wdM G qM sM) := by
  unfold fM_must_b9 at h
  refine z_aload_n C dX12_must_9 0 rfl ?_
  refine rw_g_X12_169_M_M C dX12_must_10 ?_
  refine z_if_ne C dX12_must_13 20 (by decide) h (fun h => ?_) (fun h => ?_)
  · replace h := Option.some.inj h
    subst h
    exact z_vret C O dX12_must_20 rfl rfl
  · refine z_aload_n C dX12_must_16 0 rfl ?_
    obtain ⟨y1, hy1, h⟩ := bind_o h
    refine rw_c_X12_179 C (cM_next hy1) 0 rfl dX12_must_17 (Nat.le_of_ble_eq_true rfl) (zrm rfl) ?_
    replace h := Option.some.inj h
    subst h
    exact z_vret C O dX12_must_20 rfl rfl
set_option maxHeartbeats 4000000 in
set_option maxRecDepth 100000 in
theorem cM_must {l : Launch} {G : zG} {qM : Nat → Nat} {sM : zSt} {a0 : Int32} {out : zSt} (h : fM_must sM a0 = some out) : Ct l G yX12_must cX12_must 2 none rmX12_must [.ref (qM 0), .int a0] (wdM G qM sM) none (wdM G qM out) := by
  refine zMet (own := RX12) rfl (by decide) (Nat.le_of_ble_eq_true rfl) (fun x hl C O => ?_)
  show zW x G 0 0 0 [(0, .ref (qM 0)), (1, .int a0)] [] _
  unfold fM_must at h
  refine z_iload_n C dX12_must_0 1 rfl ?_
  refine z_if_ne C dX12_must_1 9 (by decide) h (fun h => ?_) (fun h => ?_)
  · refine z_perm [0] (lv' := [(0, .ref (qM 0))]) rfl ?_
    exact kM_must_b9 C O  h
  · refine z_aload_n C dX12_must_4 0 rfl ?_
    refine z_iconst C 1 dX12_must_5 (by decide) ?_
    obtain ⟨y2, hy2, h⟩ := bind_o h
    refine rw_c_X12_175 C (cM_bad hy2) 0 rfl dX12_must_6 (Nat.le_of_ble_eq_true rfl) (zrm rfl) ?_
    refine z_perm [0] (lv' := [(0, .ref (qM 0))]) rfl ?_
    exact kM_must_b9 C O  h
set_option maxHeartbeats 4000000 in
set_option maxRecDepth 100000 in
theorem kM_word_b56 {x : zX} {G : zG} {qM : Nat → Nat} {sM : zSt} {out : Int64} (C : zC x G RX12 cX12_word 4 (some .long) rmX12_word) (O : zO x G (some (.long out)) (wdM G qM sM) 0 0)   {x1 : Int64} (h : fM_word_b56  sM x1 = some out) : zW x G 0 0 56 [(0, .ref (qM 0)), (1, .long x1)] [] (wdM G qM sM) := by
  unfold fM_word_b56 at h
  refine z_aload_n C dX12_word_56 0 rfl ?_
  refine rw_g_X12_169_M_M C dX12_word_57 ?_
  refine z_if_ne C dX12_word_60 67 (by decide) h (fun h => ?_) (fun h => ?_)
  · refine z_lconst C 0 dX12_word_67 (by decide) ?_
    replace h := Option.some.inj h
    subst h
    exact z_lret C O dX12_word_68 rfl rfl
  · refine z_lload_n C dX12_word_63 1 rfl ?_
    refine z_goto C dX12_word_64 68 (by decide) ?_
    replace h := Option.some.inj h
    subst h
    exact z_lret C O dX12_word_68 rfl rfl
set_option maxHeartbeats 4000000 in
set_option maxRecDepth 100000 in
theorem kM_word_l7b {x : zX} {G : zG} {qM : Nat → Nat} {sM : zSt} {out : Int64} (C : zC x G RX12 cX12_word 4 (some .long) rmX12_word) (O : zO x G (some (.long out)) (wdM G qM sM) 0 0) {K7 : zSt → Int64 → Int32 → Option (Int64)} (hK7 : ∀  (x1 : Int64) (x3 : Int32), K7 sM x1 x3 = some out → zW x G 0 0 7 [(0, .ref (qM 0)), (1, .long x1), (3, .int x3)] [] (wdM G qM sM))  {x1 : Int64} {x3 : Int32} (h : fM_word_l7b K7 sM x1 x3 = some out) : zW x G 0 0 7 [(0, .ref (qM 0)), (1, .long x1), (3, .int x3)] [] (wdM G qM sM) := by
  unfold fM_word_l7b at h
  refine z_iload_n C dX12_word_7 2 rfl ?_
  refine z_aload_n C dX12_word_8 0 rfl ?_
  refine rw_g_X12_166_M_M C dX12_word_9 ?_
  refine z_icmp_ge C dX12_word_12 56 (by decide) h (fun h => ?_) (fun h => ?_)
  · refine z_perm [0, 1] (lv' := [(0, .ref (qM 0)), (1, .long x1)]) rfl ?_
    exact kM_word_b56 C O  h
  · refine z_aload_n C dX12_word_15 0 rfl ?_
    refine rw_g_X12_157_M_M C dX12_word_16 ?_
    refine z_iconst C 2 dX12_word_19 (by decide) ?_
    refine z_icmp_ne C dX12_word_20 56 (by decide) h (fun h => ?_) (fun h => ?_)
    · refine z_perm [0, 1] (lv' := [(0, .ref (qM 0)), (1, .long x1)]) rfl ?_
      exact kM_word_b56 C O  h
    · refine z_aload_n C dX12_word_23 0 rfl ?_
      refine rw_g_X12_166_M_M C dX12_word_24 ?_
      refine z_aload_n C dX12_word_27 0 rfl ?_
      refine rw_g_X12_154_M_M C dX12_word_28 ?_
      refine z_isub C dX12_word_31 ?_
      refine z_bipush C 8 dX12_word_32 (by decide) ?_
      refine z_icmp_ge C dX12_word_34 56 (by decide) h (fun h => ?_) (fun h => ?_)
      · refine z_perm [0, 1] (lv' := [(0, .ref (qM 0)), (1, .long x1)]) rfl ?_
        exact kM_word_b56 C O  h
      · refine z_lload_n C dX12_word_37 1 rfl ?_
        refine z_bipush C 8 dX12_word_38 (by decide) ?_
        refine z_lshl C dX12_word_40 ?_
        refine z_aload_n C dX12_word_41 0 rfl ?_
        refine rw_g_X12_31_M_M C dX12_word_42 ?_
        refine z_iload_n C dX12_word_45 2 rfl ?_
        refine rw_l_M_M_16 C dX12_word_46 h (fun h => ?_)
        refine z_i2l C dX12_word_47 ?_
        refine z_lor C dX12_word_48 ?_
        refine z_lstore_nN C dX12_word_49 (by decide) (lvr := [(0, .ref (qM 0)), (3, .int x3)]) rfl h (fun x1_2 h => ?_)
        refine z_iinc C dX12_word_50 2 rfl 1 (by decide) (by decide) (lvr := [(1, .long x1_2), (0, .ref (qM 0))]) rfl h (fun x3_3 h => ?_)
        refine z_goto C dX12_word_53 7 (by decide) ?_
        refine z_perm [2, 1, 0] (lv' := [(0, .ref (qM 0)), (1, .long x1_2), (3, .int x3_3)]) rfl ?_
        exact hK7   _ _ h
set_option maxHeartbeats 4000000 in
set_option maxRecDepth 100000 in
theorem kM_word_l7 {x : zX} {G : zG} {qM : Nat → Nat} {sM : zSt} {out : Int64} (C : zC x G RX12 cX12_word 4 (some .long) rmX12_word) (O : zO x G (some (.long out)) (wdM G qM sM) 0 0)  : ∀ (n : Nat)  {x1 : Int64} {x3 : Int32}, fM_word_l7  n sM x1 x3 = some out → zW x G 0 0 7 [(0, .ref (qM 0)), (1, .long x1), (3, .int x3)] [] (wdM G qM sM) := by
  intro n
  induction n with
  | zero =>
    intro  x1 x3 h
    have h : (none : Option (Int64)) = some out := h
    cases h
  | succ n ih =>
    intro  x1 x3 h
    exact kM_word_l7b C O (K7 := fun v0 v1 v2 => fM_word_l7  n v0 v1 v2) (fun  x1 x3 h => ih h) h
set_option maxHeartbeats 4000000 in
set_option maxRecDepth 100000 in
theorem cM_word {l : Launch} {G : zG} {qM : Nat → Nat} {sM : zSt}  {out : Int64} (h : fM_word sM  = some out) : Ct l G yX12_word cX12_word 4 (some .long) rmX12_word [.ref (qM 0)] (wdM G qM sM) (some (.long out)) (wdM G qM sM) := by
  refine zMet (own := RX12) rfl (by decide) (Nat.le_of_ble_eq_true rfl) (fun x hl C O => ?_)
  show zW x G 0 0 0 [(0, .ref (qM 0))] [] _
  unfold fM_word at h
  refine z_lconst C 0 dX12_word_0 (by decide) ?_
  refine z_lstore_n C dX12_word_1 (by decide) (lvr := [(0, .ref (qM 0))]) rfl ?_
  refine z_aload_n C dX12_word_2 1 rfl ?_
  refine rw_g_X12_154_M_M C dX12_word_3 ?_
  refine z_istore_nN C dX12_word_6 (by decide) (lvr := [(1, .long 0), (0, .ref (qM 0))]) rfl h (fun x3_1 h => ?_)
  refine z_perm [2, 1, 0] (lv' := [(0, .ref (qM 0)), (1, .long 0), (3, .int x3_1)]) rfl ?_
  exact kM_word_l7 C O  zF h
set_option maxHeartbeats 4000000 in
set_option maxRecDepth 100000 in
theorem kM_numberIn_b81 {x : zX} {G : zG} {qM : Nat → Nat}  {out : Int32 × zSt} (C : zC x G RX12 cX12_numberIn 5 (some .int) rmX12_numberIn) (O : zO x G (some (.int out.1)) (wdM G qM out.2) 0 0)  {sM : zSt} {x3 : Int32} (h : fM_numberIn_b81  sM x3 = some out) : zW x G 0 0 81 [(0, .ref (qM 0)), (3, .int x3)] [] (wdM G qM sM) := by
  unfold fM_numberIn_b81 at h
  refine z_aload_n C dX12_numberIn_81 0 rfl ?_
  refine z_aload_n C dX12_numberIn_82 0 rfl ?_
  refine rw_g_X12_157_M_M C dX12_numberIn_83 ?_
  refine z_iconst C 3 dX12_numberIn_86 (by decide) ?_
  refine z_icmp_ne C dX12_numberIn_87 94 (by decide) h (fun h => ?_) (fun h => ?_)
  · refine z_iconst C 0 dX12_numberIn_94 (by decide) ?_
    obtain ⟨y2, hy2, h⟩ := bind_o h
    refine rw_c_X12_182 C (cM_must hy2) 0 rfl dX12_numberIn_95 (Nat.le_of_ble_eq_true rfl) (zrm rfl) ?_
    refine z_iload_n C dX12_numberIn_98 1 rfl ?_
    replace h := Option.some.inj h
    subst h
    exact z_iret C O dX12_numberIn_99 rfl rfl
  · refine z_iconst C 1 dX12_numberIn_90 (by decide) ?_
    refine z_goto C dX12_numberIn_91 95 (by decide) ?_
    obtain ⟨y3, hy3, h⟩ := bind_o h
    refine rw_c_X12_182 C (cM_must hy3) 0 rfl dX12_numberIn_95 (Nat.le_of_ble_eq_true rfl) (zrm rfl) ?_
    refine z_iload_n C dX12_numberIn_98 1 rfl ?_
    replace h := Option.some.inj h
    subst h
    exact z_iret C O dX12_numberIn_99 rfl rfl
set_option maxHeartbeats 4000000 in
set_option maxRecDepth 100000 in
theorem kM_numberIn_b56 {x : zX} {G : zG} {qM : Nat → Nat}  {out : Int32 × zSt} (C : zC x G RX12 cX12_numberIn 5 (some .int) rmX12_numberIn) (O : zO x G (some (.int out.1)) (wdM G qM out.2) 0 0)  {sM : zSt} {x1 : Int32} {x2 : Int32} {x3 : Int32} (h : fM_numberIn_b56  sM x1 x2 x3 = some out) : zW x G 0 0 56 [(0, .ref (qM 0)), (1, .int x1), (2, .int x2), (3, .int x3)] [] (wdM G qM sM) := by
  unfold fM_numberIn_b56 at h
  refine z_aload_n C dX12_numberIn_56 0 rfl ?_
  refine rw_g_X12_157_M_M C dX12_numberIn_57 ?_
  refine z_iconst C 3 dX12_numberIn_60 (by decide) ?_
  refine z_icmp_ne C dX12_numberIn_61 81 (by decide) h (fun h => ?_) (fun h => ?_)
  · refine z_perm [0, 3] (lv' := [(0, .ref (qM 0)), (3, .int x3)]) rfl ?_
    exact kM_numberIn_b81 C O  h
  · refine z_iload_n C dX12_numberIn_64 3 rfl ?_
    refine z_i2l C dX12_numberIn_65 ?_
    refine z_iload_n C dX12_numberIn_66 1 rfl ?_
    refine z_i2l C dX12_numberIn_67 ?_
    refine z_iload_n C dX12_numberIn_68 2 rfl ?_
    refine z_i2l C dX12_numberIn_69 ?_
    obtain ⟨y4, hy4, h⟩ := bind_o h
    refine rw_c_X12_118 C (Ct.frame0 (cM_in hy4)) dX12_numberIn_70 (Nat.le_of_ble_eq_true rfl) (zrm rfl) ?_
    refine z_ifb_ne C dX12_numberIn_73 81 (by decide) h (fun h => ?_) (fun h => ?_)
    · refine z_perm [0, 3] (lv' := [(0, .ref (qM 0)), (3, .int x3)]) rfl ?_
      exact kM_numberIn_b81 C O  h
    · refine z_aload_n C dX12_numberIn_76 0 rfl ?_
      refine z_iconst C 2 dX12_numberIn_77 (by decide) ?_
      obtain ⟨y5, hy5, h⟩ := bind_o h
      refine rw_c_X12_175 C (cM_bad hy5) 0 rfl dX12_numberIn_78 (Nat.le_of_ble_eq_true rfl) (zrm rfl) ?_
      refine z_perm [0, 3] (lv' := [(0, .ref (qM 0)), (3, .int x3)]) rfl ?_
      exact kM_numberIn_b81 C O  h
set_option maxHeartbeats 4000000 in
set_option maxRecDepth 100000 in
theorem kM_numberIn_l17b {x : zX} {G : zG} {qM : Nat → Nat}  {out : Int32 × zSt} (C : zC x G RX12 cX12_numberIn 5 (some .int) rmX12_numberIn) (O : zO x G (some (.int out.1)) (wdM G qM out.2) 0 0) {K17 : zSt → Int32 → Int32 → Int32 → Int32 → Option (Int32 × zSt)} (hK17 : ∀ (sM : zSt) (x1 : Int32) (x2 : Int32) (x3 : Int32) (x4 : Int32), K17 sM x1 x2 x3 x4 = some out → zW x G 0 0 17 [(0, .ref (qM 0)), (1, .int x1), (2, .int x2), (3, .int x3), (4, .int x4)] [] (wdM G qM sM)) {sM : zSt} {x1 : Int32} {x2 : Int32} {x3 : Int32} {x4 : Int32} (h : fM_numberIn_l17b K17 sM x1 x2 x3 x4 = some out) : zW x G 0 0 17 [(0, .ref (qM 0)), (1, .int x1), (2, .int x2), (3, .int x3), (4, .int x4)] [] (wdM G qM sM) := by
  unfold fM_numberIn_l17b at h
  refine z_iload C dX12_numberIn_17 4 rfl ?_
  refine z_aload_n C dX12_numberIn_19 0 rfl ?_
  refine rw_g_X12_166_M_M C dX12_numberIn_20 ?_
  refine z_icmp_ge C dX12_numberIn_23 56 (by decide) h (fun h => ?_) (fun h => ?_)
  · refine z_perm [0, 1, 2, 3] (lv' := [(0, .ref (qM 0)), (1, .int x1), (2, .int x2), (3, .int x3)]) rfl ?_
    exact kM_numberIn_b56 C O  h
  · refine z_aload_n C dX12_numberIn_26 0 rfl ?_
    refine rw_g_X12_157_M_M C dX12_numberIn_27 ?_
    refine z_iconst C 3 dX12_numberIn_30 (by decide) ?_
    refine z_icmp_ne C dX12_numberIn_31 56 (by decide) h (fun h => ?_) (fun h => ?_)
    · refine z_perm [0, 1, 2, 3] (lv' := [(0, .ref (qM 0)), (1, .int x1), (2, .int x2), (3, .int x3)]) rfl ?_
      exact kM_numberIn_b56 C O  h
    · refine z_bipush C 10 dX12_numberIn_34 (by decide) ?_
      refine z_iload_n C dX12_numberIn_36 3 rfl ?_
      refine z_imul C dX12_numberIn_37 ?_
      refine z_aload_n C dX12_numberIn_38 0 rfl ?_
      refine rw_g_X12_31_M_M C dX12_numberIn_39 ?_
      refine z_iload C dX12_numberIn_42 4 rfl ?_
      refine rw_l_M_M_16 C dX12_numberIn_44 h (fun h => ?_)
      refine z_iadd C dX12_numberIn_45 ?_
      refine z_bipush C 48 dX12_numberIn_46 (by decide) ?_
      refine z_isub C dX12_numberIn_48 ?_
      refine z_istore_nN C dX12_numberIn_49 (by decide) (lvr := [(0, .ref (qM 0)), (1, .int x1), (2, .int x2), (4, .int x4)]) rfl h (fun x3_6 h => ?_)
      refine z_iinc C dX12_numberIn_50 4 rfl 1 (by decide) (by decide) (lvr := [(3, .int x3_6), (0, .ref (qM 0)), (1, .int x1), (2, .int x2)]) rfl h (fun x4_7 h => ?_)
      refine z_goto C dX12_numberIn_53 17 (by decide) ?_
      refine z_perm [2, 3, 4, 1, 0] (lv' := [(0, .ref (qM 0)), (1, .int x1), (2, .int x2), (3, .int x3_6), (4, .int x4_7)]) rfl ?_
      exact hK17 _  _ _ _ _ h
set_option maxHeartbeats 4000000 in
set_option maxRecDepth 100000 in
theorem kM_numberIn_l17 {x : zX} {G : zG} {qM : Nat → Nat}  {out : Int32 × zSt} (C : zC x G RX12 cX12_numberIn 5 (some .int) rmX12_numberIn) (O : zO x G (some (.int out.1)) (wdM G qM out.2) 0 0)  : ∀ (n : Nat) {sM : zSt} {x1 : Int32} {x2 : Int32} {x3 : Int32} {x4 : Int32}, fM_numberIn_l17  n sM x1 x2 x3 x4 = some out → zW x G 0 0 17 [(0, .ref (qM 0)), (1, .int x1), (2, .int x2), (3, .int x3), (4, .int x4)] [] (wdM G qM sM) := by
  intro n
  induction n with
  | zero =>
    intro sM x1 x2 x3 x4 h
    have h : (none : Option (Int32 × zSt)) = some out := h
    cases h
  | succ n ih =>
    intro sM x1 x2 x3 x4 h
    exact kM_numberIn_l17b C O (K17 := fun v0 v1 v2 v3 v4 => fM_numberIn_l17  n v0 v1 v2 v3 v4) (fun sM x1 x2 x3 x4 h => ih h) h
set_option maxHeartbeats 4000000 in
set_option maxRecDepth 100000 in
theorem cM_numberIn {l : Launch} {G : zG} {qM : Nat → Nat} {sM : zSt} {a0 : Int32} {a1 : Int32} {out : Int32 × zSt} (h : fM_numberIn sM a0 a1 = some out) : Ct l G yX12_numberIn cX12_numberIn 5 (some .int) rmX12_numberIn [.ref (qM 0), .int a0, .int a1] (wdM G qM sM) (some (.int out.1)) (wdM G qM out.2) := by
  refine zMet (own := RX12) rfl (by decide) (Nat.le_of_ble_eq_true rfl) (fun x hl C O => ?_)
  show zW x G 0 0 0 [(0, .ref (qM 0)), (1, .int a0), (2, .int a1)] [] _
  unfold fM_numberIn at h
  refine z_aload_n C dX12_numberIn_0 0 rfl ?_
  refine rw_g_X12_169_M_M C dX12_numberIn_1 ?_
  refine z_if_le C dX12_numberIn_4 9 (by decide) h (fun h => ?_) (fun h => ?_)
  · refine z_iconst C 0 dX12_numberIn_9 (by decide) ?_
    refine z_istore_n C dX12_numberIn_10 (by decide) (lvr := [(0, .ref (qM 0)), (1, .int a0), (2, .int a1)]) rfl ?_
    refine z_aload_n C dX12_numberIn_11 1 rfl ?_
    refine rw_g_X12_154_M_M C dX12_numberIn_12 ?_
    refine z_istoreN C dX12_numberIn_15 (by decide) (lvr := [(3, .int 0), (0, .ref (qM 0)), (1, .int a0), (2, .int a1)]) rfl h (fun x4_1 h => ?_)
    refine z_perm [2, 3, 4, 1, 0] (lv' := [(0, .ref (qM 0)), (1, .int a0), (2, .int a1), (3, .int 0), (4, .int x4_1)]) rfl ?_
    exact kM_numberIn_l17 C O  zF h
  · refine z_iconst C 0 dX12_numberIn_7 (by decide) ?_
    replace h := Option.some.inj h
    subst h
    exact z_iret C O dX12_numberIn_8 rfl rfl
set_option maxHeartbeats 4000000 in
set_option maxRecDepth 100000 in
theorem kM_oneOf_b78 {x : zX} {G : zG} {qM : Nat → Nat}  {out : Int32 × zSt} (C : zC x G RX12 cX12_oneOf 14 (some .int) rmX12_oneOf) (O : zO x G (some (.int out.1)) (wdM G qM out.2) 0 0)  {sM : zSt} {t0 : Int32} (h : fM_oneOf_b78  sM t0 = some out) : zW x G 0 0 78 [(0, .ref (qM 0))] [.int t0] (wdM G qM sM) := by
  unfold fM_oneOf_b78 at h
  refine z_istore C dX12_oneOf_78 (by decide) (lvr := [(0, .ref (qM 0))]) rfl ?_
  refine z_aload_n C dX12_oneOf_80 1 rfl ?_
  refine rw_g_X12_169_M_M C dX12_oneOf_81 ?_
  refine z_if_ne C dX12_oneOf_84 103 (by decide) h (fun h => ?_) (fun h => ?_)
  · refine z_iload C dX12_oneOf_103 0 rfl ?_
    replace h := Option.some.inj h
    subst h
    exact z_iret C O dX12_oneOf_105 rfl rfl
  · refine z_aload_n C dX12_oneOf_87 1 rfl ?_
    refine z_iload C dX12_oneOf_88 0 rfl ?_
    refine z_ldc C rw_u_1175 dX12_oneOf_90 ?_
    refine z_icmp_eq C dX12_oneOf_92 99 (by decide) h (fun h => ?_) (fun h => ?_)
    · refine z_iconst C 0 dX12_oneOf_99 (by decide) ?_
      obtain ⟨y2, hy2, h⟩ := bind_o h
      refine rw_c_X12_182 C (cM_must hy2) 0 rfl dX12_oneOf_100 (Nat.le_of_ble_eq_true rfl) (zrm rfl) ?_
      refine z_iload C dX12_oneOf_103 0 rfl ?_
      replace h := Option.some.inj h
      subst h
      exact z_iret C O dX12_oneOf_105 rfl rfl
    · refine z_iconst C 1 dX12_oneOf_95 (by decide) ?_
      refine z_goto C dX12_oneOf_96 100 (by decide) ?_
      obtain ⟨y3, hy3, h⟩ := bind_o h
      refine rw_c_X12_182 C (cM_must hy3) 0 rfl dX12_oneOf_100 (Nat.le_of_ble_eq_true rfl) (zrm rfl) ?_
      refine z_iload C dX12_oneOf_103 0 rfl ?_
      replace h := Option.some.inj h
      subst h
      exact z_iret C O dX12_oneOf_105 rfl rfl
set_option maxHeartbeats 4000000 in
set_option maxRecDepth 100000 in
theorem cM_oneOf {l : Launch} {G : zG} {qM : Nat → Nat} {sM : zSt} {a0 : Int64} {a1 : Int64} {a2 : Int64} {a3 : Int64} {a4 : Int64} {out : Int32 × zSt} (h : fM_oneOf sM a0 a1 a2 a3 a4 = some out) : Ct l G yX12_oneOf cX12_oneOf 14 (some .int) rmX12_oneOf [.ref (qM 0), .long a0, .long a1, .long a2, .long a3, .long a4] (wdM G qM sM) (some (.int out.1)) (wdM G qM out.2) := by
  refine zMet (own := RX12) rfl (by decide) (Nat.le_of_ble_eq_true rfl) (fun x hl C O => ?_)
  show zW x G 0 0 0 [(0, .ref (qM 0)), (1, .long a0), (3, .long a1), (5, .long a2), (7, .long a3), (9, .long a4)] [] _
  unfold fM_oneOf at h
  refine z_aload_n C dX12_oneOf_0 0 rfl ?_
  obtain ⟨y1, hy1, h⟩ := bind_o h
  refine rw_c_X12_186 C (cM_word hy1) 0 rfl dX12_oneOf_1 (Nat.le_of_ble_eq_true rfl) (zrm rfl) ?_
  refine z_lstore C dX12_oneOf_4 (by decide) (lvr := [(0, .ref (qM 0)), (1, .long a0), (3, .long a1), (5, .long a2), (7, .long a3), (9, .long a4)]) rfl ?_
  refine z_lload C dX12_oneOf_6 0 rfl ?_
  refine z_lconst C 0 dX12_oneOf_8 (by decide) ?_
  refine z_lcmp_ne C dX12_oneOf_9 dX12_oneOf_10 18 (by decide) h (fun h => ?_) (fun h => ?_)
  · refine z_lload C dX12_oneOf_18 0 rfl ?_
    refine z_lload_n C dX12_oneOf_20 2 rfl ?_
    refine z_lcmp_ne C dX12_oneOf_21 dX12_oneOf_22 29 (by decide) h (fun h => ?_) (fun h => ?_)
    · refine z_lload C dX12_oneOf_29 0 rfl ?_
      refine z_lload_n C dX12_oneOf_31 3 rfl ?_
      refine z_lcmp_ne C dX12_oneOf_32 dX12_oneOf_33 40 (by decide) h (fun h => ?_) (fun h => ?_)
      · refine z_lload C dX12_oneOf_40 0 rfl ?_
        refine z_lload C dX12_oneOf_42 4 rfl ?_
        refine z_lcmp_ne C dX12_oneOf_44 dX12_oneOf_45 52 (by decide) h (fun h => ?_) (fun h => ?_)
        · refine z_lload C dX12_oneOf_52 0 rfl ?_
          refine z_lload C dX12_oneOf_54 5 rfl ?_
          refine z_lcmp_ne C dX12_oneOf_56 dX12_oneOf_57 64 (by decide) h (fun h => ?_) (fun h => ?_)
          · refine z_lload C dX12_oneOf_64 0 rfl ?_
            refine z_lload C dX12_oneOf_66 6 rfl ?_
            refine z_lcmp_ne C dX12_oneOf_68 dX12_oneOf_69 76 (by decide) h (fun h => ?_) (fun h => ?_)
            · refine z_ldc C rw_u_1175 dX12_oneOf_76 ?_
              refine z_perm [1] (lv' := [(0, .ref (qM 0))]) rfl ?_
              exact kM_oneOf_b78 C O  h
            · refine z_iconst C 4 dX12_oneOf_72 (by decide) ?_
              refine z_goto C dX12_oneOf_73 78 (by decide) ?_
              refine z_perm [1] (lv' := [(0, .ref (qM 0))]) rfl ?_
              exact kM_oneOf_b78 C O  h
          · refine z_iconst C 3 dX12_oneOf_60 (by decide) ?_
            refine z_goto C dX12_oneOf_61 78 (by decide) ?_
            refine z_perm [1] (lv' := [(0, .ref (qM 0))]) rfl ?_
            exact kM_oneOf_b78 C O  h
        · refine z_iconst C 2 dX12_oneOf_48 (by decide) ?_
          refine z_goto C dX12_oneOf_49 78 (by decide) ?_
          refine z_perm [1] (lv' := [(0, .ref (qM 0))]) rfl ?_
          exact kM_oneOf_b78 C O  h
      · refine z_iconst C 1 dX12_oneOf_36 (by decide) ?_
        refine z_goto C dX12_oneOf_37 78 (by decide) ?_
        refine z_perm [1] (lv' := [(0, .ref (qM 0))]) rfl ?_
        exact kM_oneOf_b78 C O  h
    · refine z_iconst C 0 dX12_oneOf_25 (by decide) ?_
      refine z_goto C dX12_oneOf_26 78 (by decide) ?_
      refine z_perm [1] (lv' := [(0, .ref (qM 0))]) rfl ?_
      exact kM_oneOf_b78 C O  h
  · refine z_ldc C rw_u_1175 dX12_oneOf_13 ?_
    refine z_goto C dX12_oneOf_15 78 (by decide) ?_
    refine z_perm [1] (lv' := [(0, .ref (qM 0))]) rfl ?_
    exact kM_oneOf_b78 C O  h
set_option maxHeartbeats 4000000 in
set_option maxRecDepth 100000 in
theorem cM_mustEnd {l : Launch} {G : zG} {qM : Nat → Nat} {sM : zSt}  {out : zSt} (h : fM_mustEnd sM  = some out) : Ct l G yX12_mustEnd cX12_mustEnd 1 none rmX12_mustEnd [.ref (qM 0)] (wdM G qM sM) none (wdM G qM out) := by
  refine zMet (own := RX12) rfl (by decide) (Nat.le_of_ble_eq_true rfl) (fun x hl C O => ?_)
  show zW x G 0 0 0 [(0, .ref (qM 0))] [] _
  unfold fM_mustEnd at h
  refine z_aload_n C dX12_mustEnd_0 0 rfl ?_
  refine rw_g_X12_169_M_M C dX12_mustEnd_1 ?_
  refine z_if_ne C dX12_mustEnd_4 24 (by decide) h (fun h => ?_) (fun h => ?_)
  · replace h := Option.some.inj h
    subst h
    exact z_vret C O dX12_mustEnd_24 rfl rfl
  · refine z_aload_n C dX12_mustEnd_7 0 rfl ?_
    refine z_aload_n C dX12_mustEnd_8 0 rfl ?_
    refine rw_g_X12_157_M_M C dX12_mustEnd_9 ?_
    refine z_iconst C 4 dX12_mustEnd_12 (by decide) ?_
    refine z_icmp_ne C dX12_mustEnd_13 20 (by decide) h (fun h => ?_) (fun h => ?_)
    · refine z_iconst C 0 dX12_mustEnd_20 (by decide) ?_
      obtain ⟨y1, hy1, h⟩ := bind_o h
      refine rw_c_X12_182 C (cM_must hy1) 0 rfl dX12_mustEnd_21 (Nat.le_of_ble_eq_true rfl) (zrm rfl) ?_
      replace h := Option.some.inj h
      subst h
      exact z_vret C O dX12_mustEnd_24 rfl rfl
    · refine z_iconst C 1 dX12_mustEnd_16 (by decide) ?_
      refine z_goto C dX12_mustEnd_17 21 (by decide) ?_
      obtain ⟨y2, hy2, h⟩ := bind_o h
      refine rw_c_X12_182 C (cM_must hy2) 0 rfl dX12_mustEnd_21 (Nat.le_of_ble_eq_true rfl) (zrm rfl) ?_
      replace h := Option.some.inj h
      subst h
      exact z_vret C O dX12_mustEnd_24 rfl rfl
set_option maxHeartbeats 4000000 in
set_option maxRecDepth 100000 in
theorem kM_readLaw_l56b {x : zX} {G : zG} {qM : Nat → Nat}  {out : zSt} (C : zC x G RX12 cX12_readLaw 3 none rmX12_readLaw) (O : zO x G none (wdM G qM out) 0 0) {K56 : zSt → Int32 → Int32 → Option (zSt)} (hK56 : ∀ (sM : zSt) (x1 : Int32) (x2 : Int32), K56 sM x1 x2 = some out → zW x G 0 0 56 [(0, .ref (qM 0)), (1, .int x1), (2, .int x2)] [] (wdM G qM sM)) {sM : zSt} {x1 : Int32} {x2 : Int32} (h : fM_readLaw_l56b K56 sM x1 x2 = some out) : zW x G 0 0 56 [(0, .ref (qM 0)), (1, .int x1), (2, .int x2)] [] (wdM G qM sM) := by
  unfold fM_readLaw_l56b at h
  refine z_iload_n C dX12_readLaw_56 2 rfl ?_
  refine z_iconst C 4 dX12_readLaw_57 (by decide) ?_
  refine z_icmp_ge C dX12_readLaw_58 94 (by decide) h (fun h => ?_) (fun h => ?_)
  · refine z_aload_n C dX12_readLaw_94 0 rfl ?_
    refine rw_g_X12_25_M_M C dX12_readLaw_95 ?_
    refine z_iload_n C dX12_readLaw_98 1 rfl ?_
    refine z_iconst C 4 dX12_readLaw_99 (by decide) ?_
    refine z_iadd C dX12_readLaw_100 ?_
    refine z_aload_n C dX12_readLaw_101 0 rfl ?_
    refine z_ldc2 C rw_u_1206 dX12_readLaw_102 ?_
    refine z_ldc2 C rw_u_1200 dX12_readLaw_105 ?_
    refine z_ldc2 C rw_u_1201 dX12_readLaw_108 ?_
    refine z_ldc2 C rw_u_1201 dX12_readLaw_111 ?_
    refine z_ldc2 C rw_u_1201 dX12_readLaw_114 ?_
    obtain ⟨y5, hy5, h⟩ := bind_o h
    refine rw_c_X12_201 C (cM_oneOf hy5) 0 rfl dX12_readLaw_117 (Nat.le_of_ble_eq_true rfl) (zrm rfl) ?_
    refine rw_s_M_M_14 C dX12_readLaw_120 h (fun sM6 h => ?_)
    refine z_aload_n C dX12_readLaw_121 0 rfl ?_
    refine rw_g_X12_25_M_M C dX12_readLaw_122 ?_
    refine z_iload_n C dX12_readLaw_125 1 rfl ?_
    refine z_iconst C 5 dX12_readLaw_126 (by decide) ?_
    refine z_iadd C dX12_readLaw_127 ?_
    refine z_aload_n C dX12_readLaw_128 0 rfl ?_
    refine z_ldc2 C rw_u_1207 dX12_readLaw_129 ?_
    refine z_ldc2 C rw_u_1208 dX12_readLaw_132 ?_
    refine z_ldc2 C rw_u_1209 dX12_readLaw_135 ?_
    refine z_ldc2 C rw_u_1210 dX12_readLaw_138 ?_
    refine z_ldc2 C rw_u_1211 dX12_readLaw_141 ?_
    obtain ⟨y7, hy7, h⟩ := bind_o h
    refine rw_c_X12_201 C (cM_oneOf hy7) 0 rfl dX12_readLaw_144 (Nat.le_of_ble_eq_true rfl) (zrm rfl) ?_
    refine rw_s_M_M_14 C dX12_readLaw_147 h (fun sM8 h => ?_)
    refine z_aload_n C dX12_readLaw_148 0 rfl ?_
    refine rw_g_X12_25_M_M C dX12_readLaw_149 ?_
    refine z_iload_n C dX12_readLaw_152 1 rfl ?_
    refine z_bipush C 6 dX12_readLaw_153 (by decide) ?_
    refine z_iadd C dX12_readLaw_155 ?_
    refine z_aload_n C dX12_readLaw_156 0 rfl ?_
    refine z_ldc2 C rw_u_1212 dX12_readLaw_157 ?_
    refine z_ldc2 C rw_u_1213 dX12_readLaw_160 ?_
    refine z_ldc2 C rw_u_1201 dX12_readLaw_163 ?_
    refine z_ldc2 C rw_u_1201 dX12_readLaw_166 ?_
    refine z_ldc2 C rw_u_1201 dX12_readLaw_169 ?_
    obtain ⟨y9, hy9, h⟩ := bind_o h
    refine rw_c_X12_201 C (cM_oneOf hy9) 0 rfl dX12_readLaw_172 (Nat.le_of_ble_eq_true rfl) (zrm rfl) ?_
    refine rw_s_M_M_14 C dX12_readLaw_175 h (fun sM10 h => ?_)
    refine z_aload_n C dX12_readLaw_176 0 rfl ?_
    refine rw_g_X12_25_M_M C dX12_readLaw_177 ?_
    refine z_iload_n C dX12_readLaw_180 1 rfl ?_
    refine z_bipush C 7 dX12_readLaw_181 (by decide) ?_
    refine z_iadd C dX12_readLaw_183 ?_
    refine z_aload_n C dX12_readLaw_184 0 rfl ?_
    refine z_iconst C 0 dX12_readLaw_185 (by decide) ?_
    refine z_bipush C 100 dX12_readLaw_186 (by decide) ?_
    obtain ⟨y11, hy11, h⟩ := bind_o h
    refine rw_c_X12_221 C (cM_numberIn hy11) 0 rfl dX12_readLaw_188 (Nat.le_of_ble_eq_true rfl) (zrm rfl) ?_
    refine rw_s_M_M_14 C dX12_readLaw_191 h (fun sM12 h => ?_)
    refine z_aload_n C dX12_readLaw_192 0 rfl ?_
    obtain ⟨y13, hy13, h⟩ := bind_o h
    refine rw_c_X12_225 C (cM_mustEnd hy13) 0 rfl dX12_readLaw_193 (Nat.le_of_ble_eq_true rfl) (zrm rfl) ?_
    refine z_aload_n C dX12_readLaw_196 0 rfl ?_
    refine z_dup C dX12_readLaw_197 rfl ?_
    refine rw_g_X12_192_M_M C dX12_readLaw_198 ?_
    refine z_iconst C 1 dX12_readLaw_201 (by decide) ?_
    refine z_iadd C dX12_readLaw_202 ?_
    refine rw_p_X12_192_M_M C dX12_readLaw_203 h (fun sM14 h => ?_)
    replace h := Option.some.inj h
    subst h
    exact z_vret C O dX12_readLaw_206 rfl rfl
  · refine z_aload_n C dX12_readLaw_61 0 rfl ?_
    refine rw_g_X12_25_M_M C dX12_readLaw_62 ?_
    refine z_iload_n C dX12_readLaw_65 1 rfl ?_
    refine z_iload_n C dX12_readLaw_66 2 rfl ?_
    refine z_iadd C dX12_readLaw_67 ?_
    refine z_aload_n C dX12_readLaw_68 0 rfl ?_
    refine z_ldc2 C rw_u_1199 dX12_readLaw_69 ?_
    refine z_ldc2 C rw_u_1200 dX12_readLaw_72 ?_
    refine z_ldc2 C rw_u_1201 dX12_readLaw_75 ?_
    refine z_ldc2 C rw_u_1201 dX12_readLaw_78 ?_
    refine z_ldc2 C rw_u_1201 dX12_readLaw_81 ?_
    obtain ⟨y15, hy15, h⟩ := bind_o h
    refine rw_c_X12_201 C (cM_oneOf hy15) 0 rfl dX12_readLaw_84 (Nat.le_of_ble_eq_true rfl) (zrm rfl) ?_
    refine rw_s_M_M_14 C dX12_readLaw_87 h (fun sM16 h => ?_)
    refine z_iinc C dX12_readLaw_88 2 rfl 1 (by decide) (by decide) (lvr := [(0, .ref (qM 0)), (1, .int x1)]) rfl h (fun x2_17 h => ?_)
    refine z_goto C dX12_readLaw_91 56 (by decide) ?_
    refine z_perm [1, 2, 0] (lv' := [(0, .ref (qM 0)), (1, .int x1), (2, .int x2_17)]) rfl ?_
    exact hK56 _  _ _ h
set_option maxHeartbeats 4000000 in
set_option maxRecDepth 100000 in
theorem kM_readLaw_l56 {x : zX} {G : zG} {qM : Nat → Nat}  {out : zSt} (C : zC x G RX12 cX12_readLaw 3 none rmX12_readLaw) (O : zO x G none (wdM G qM out) 0 0)  : ∀ (n : Nat) {sM : zSt} {x1 : Int32} {x2 : Int32}, fM_readLaw_l56  n sM x1 x2 = some out → zW x G 0 0 56 [(0, .ref (qM 0)), (1, .int x1), (2, .int x2)] [] (wdM G qM sM) := by
  intro n
  induction n with
  | zero =>
    intro sM x1 x2 h
    have h : (none : Option (zSt)) = some out := h
    cases h
  | succ n ih =>
    intro sM x1 x2 h
    exact kM_readLaw_l56b C O (K56 := fun v0 v1 v2 => fM_readLaw_l56  n v0 v1 v2) (fun sM x1 x2 h => ih h) h
set_option maxHeartbeats 4000000 in
set_option maxRecDepth 100000 in
theorem kM_readLaw_b41 {x : zX} {G : zG} {qM : Nat → Nat}  {out : zSt} (C : zC x G RX12 cX12_readLaw 3 none rmX12_readLaw) (O : zO x G none (wdM G qM out) 0 0)  {sM : zSt} {t0 : Int32} (h : fM_readLaw_b41  sM t0 = some out) : zW x G 0 0 41 [(0, .ref (qM 0))] [.int t0, .ref (qM 0)] (wdM G qM sM) := by
  unfold fM_readLaw_b41 at h
  obtain ⟨y3, hy3, h⟩ := bind_o h
  refine rw_c_X12_182 C (cM_must hy3) 0 rfl dX12_readLaw_41 (Nat.le_of_ble_eq_true rfl) (zrm rfl) ?_
  refine z_bipush C 8 dX12_readLaw_44 (by decide) ?_
  refine z_aload_n C dX12_readLaw_46 0 rfl ?_
  refine rw_g_X12_192_M_M C dX12_readLaw_47 ?_
  refine z_iconst C 4 dX12_readLaw_50 (by decide) ?_
  refine z_irem C dX12_readLaw_51 h (fun h => ?_)
  refine z_imul C dX12_readLaw_52 ?_
  refine z_istore_nN C dX12_readLaw_53 (by decide) (lvr := [(0, .ref (qM 0))]) rfl h (fun x1_4 h => ?_)
  refine z_iconst C 0 dX12_readLaw_54 (by decide) ?_
  refine z_istore_n C dX12_readLaw_55 (by decide) (lvr := [(1, .int x1_4), (0, .ref (qM 0))]) rfl ?_
  refine z_perm [2, 1, 0] (lv' := [(0, .ref (qM 0)), (1, .int x1_4), (2, .int 0)]) rfl ?_
  exact kM_readLaw_l56 C O  zF h
set_option maxHeartbeats 4000000 in
set_option maxRecDepth 100000 in
theorem kM_readLaw_b24 {x : zX} {G : zG} {qM : Nat → Nat}  {out : zSt} (C : zC x G RX12 cX12_readLaw 3 none rmX12_readLaw) (O : zO x G none (wdM G qM out) 0 0)  {sM : zSt}  (h : fM_readLaw_b24  sM  = some out) : zW x G 0 0 24 [(0, .ref (qM 0))] [] (wdM G qM sM) := by
  unfold fM_readLaw_b24 at h
  refine z_aload_n C dX12_readLaw_24 0 rfl ?_
  refine z_aload_n C dX12_readLaw_25 0 rfl ?_
  obtain ⟨y2, hy2, h⟩ := bind_o h
  refine rw_c_X12_186 C (cM_word hy2) 0 rfl dX12_readLaw_26 (Nat.le_of_ble_eq_true rfl) (zrm rfl) ?_
  refine z_ldc2 C rw_u_1190 dX12_readLaw_29 ?_
  refine z_lcmp_ne C dX12_readLaw_32 dX12_readLaw_33 40 (by decide) h (fun h => ?_) (fun h => ?_)
  · refine z_iconst C 0 dX12_readLaw_40 (by decide) ?_
    exact kM_readLaw_b41 C O  h
  · refine z_iconst C 1 dX12_readLaw_36 (by decide) ?_
    refine z_goto C dX12_readLaw_37 41 (by decide) ?_
    exact kM_readLaw_b41 C O  h
set_option maxHeartbeats 4000000 in
set_option maxRecDepth 100000 in
theorem cM_readLaw {l : Launch} {G : zG} {qM : Nat → Nat} {sM : zSt}  {out : zSt} (h : fM_readLaw sM  = some out) : Ct l G yX12_readLaw cX12_readLaw 3 none rmX12_readLaw [.ref (qM 0)] (wdM G qM sM) none (wdM G qM out) := by
  refine zMet (own := RX12) rfl (by decide) (Nat.le_of_ble_eq_true rfl) (fun x hl C O => ?_)
  show zW x G 0 0 0 [(0, .ref (qM 0))] [] _
  unfold fM_readLaw at h
  refine z_aload_n C dX12_readLaw_0 0 rfl ?_
  obtain ⟨y1, hy1, h⟩ := bind_o h
  refine rw_c_X12_186 C (cM_word hy1) 0 rfl dX12_readLaw_1 (Nat.le_of_ble_eq_true rfl) (zrm rfl) ?_
  refine z_ldc2 C rw_u_1190 dX12_readLaw_4 ?_
  refine z_lcmp_ne C dX12_readLaw_7 dX12_readLaw_8 24 (by decide) h (fun h => ?_) (fun h => ?_)
  · exact kM_readLaw_b24 C O  h
  · refine z_aload_n C dX12_readLaw_11 0 rfl ?_
    refine rw_g_X12_192_M_M C dX12_readLaw_12 ?_
    refine z_iconst C 4 dX12_readLaw_15 (by decide) ?_
    refine z_icmp_ne C dX12_readLaw_16 24 (by decide) h (fun h => ?_) (fun h => ?_)
    · exact kM_readLaw_b24 C O  h
    · refine z_aload_n C dX12_readLaw_19 0 rfl ?_
      refine z_iconst C 3 dX12_readLaw_20 (by decide) ?_
      obtain ⟨y18, hy18, h⟩ := bind_o h
      refine rw_c_X12_175 C (cM_bad hy18) 0 rfl dX12_readLaw_21 (Nat.le_of_ble_eq_true rfl) (zrm rfl) ?_
      exact kM_readLaw_b24 C O  h
set_option maxHeartbeats 4000000 in
set_option maxRecDepth 100000 in
theorem cM_kindOfWord {l : Launch} {G : zG} {qM : Nat → Nat} {sM : zSt}  {out : Int32} (h : fM_kindOfWord sM  = some out) : Ct l G yX12_kindOfWord cX12_kindOfWord 3 (some .int) rmX12_kindOfWord [.ref (qM 0)] (wdM G qM sM) (some (.int out)) (wdM G qM sM) := by
  refine zMet (own := RX12) rfl (by decide) (Nat.le_of_ble_eq_true rfl) (fun x hl C O => ?_)
  show zW x G 0 0 0 [(0, .ref (qM 0))] [] _
  unfold fM_kindOfWord at h
  refine z_aload_n C dX12_kindOfWord_0 0 rfl ?_
  obtain ⟨y1, hy1, h⟩ := bind_o h
  refine rw_c_X12_186 C (cM_word hy1) 0 rfl dX12_kindOfWord_1 (Nat.le_of_ble_eq_true rfl) (zrm rfl) ?_
  refine z_lstore_n C dX12_kindOfWord_4 (by decide) (lvr := [(0, .ref (qM 0))]) rfl ?_
  refine z_lload_n C dX12_kindOfWord_5 0 rfl ?_
  refine z_ldc2 C rw_u_1230 dX12_kindOfWord_6 ?_
  refine z_lcmp_ne C dX12_kindOfWord_9 dX12_kindOfWord_10 17 (by decide) h (fun h => ?_) (fun h => ?_)
  · refine z_lload_n C dX12_kindOfWord_17 0 rfl ?_
    refine z_ldc2 C rw_u_1231 dX12_kindOfWord_18 ?_
    refine z_lcmp_ne C dX12_kindOfWord_21 dX12_kindOfWord_22 29 (by decide) h (fun h => ?_) (fun h => ?_)
    · refine z_lload_n C dX12_kindOfWord_29 0 rfl ?_
      refine z_ldc2 C rw_u_1232 dX12_kindOfWord_30 ?_
      refine z_lcmp_ne C dX12_kindOfWord_33 dX12_kindOfWord_34 41 (by decide) h (fun h => ?_) (fun h => ?_)
      · refine z_lload_n C dX12_kindOfWord_41 0 rfl ?_
        refine z_ldc2 C rw_u_1233 dX12_kindOfWord_42 ?_
        refine z_lcmp_ne C dX12_kindOfWord_45 dX12_kindOfWord_46 53 (by decide) h (fun h => ?_) (fun h => ?_)
        · refine z_lload_n C dX12_kindOfWord_53 0 rfl ?_
          refine z_ldc2 C rw_u_1234 dX12_kindOfWord_54 ?_
          refine z_lcmp_ne C dX12_kindOfWord_57 dX12_kindOfWord_58 65 (by decide) h (fun h => ?_) (fun h => ?_)
          · refine z_lload_n C dX12_kindOfWord_65 0 rfl ?_
            refine z_ldc2 C rw_u_1235 dX12_kindOfWord_66 ?_
            refine z_lcmp_ne C dX12_kindOfWord_69 dX12_kindOfWord_70 77 (by decide) h (fun h => ?_) (fun h => ?_)
            · refine z_lload_n C dX12_kindOfWord_77 0 rfl ?_
              refine z_ldc2 C rw_u_1236 dX12_kindOfWord_78 ?_
              refine z_lcmp_ne C dX12_kindOfWord_81 dX12_kindOfWord_82 90 (by decide) h (fun h => ?_) (fun h => ?_)
              · refine z_ldc C rw_u_1175 dX12_kindOfWord_90 ?_
                replace h := Option.some.inj h
                subst h
                exact z_iret C O dX12_kindOfWord_92 rfl rfl
              · refine z_bipush C 6 dX12_kindOfWord_85 (by decide) ?_
                refine z_goto C dX12_kindOfWord_87 92 (by decide) ?_
                replace h := Option.some.inj h
                subst h
                exact z_iret C O dX12_kindOfWord_92 rfl rfl
            · refine z_iconst C 5 dX12_kindOfWord_73 (by decide) ?_
              refine z_goto C dX12_kindOfWord_74 92 (by decide) ?_
              replace h := Option.some.inj h
              subst h
              exact z_iret C O dX12_kindOfWord_92 rfl rfl
          · refine z_iconst C 4 dX12_kindOfWord_61 (by decide) ?_
            refine z_goto C dX12_kindOfWord_62 92 (by decide) ?_
            replace h := Option.some.inj h
            subst h
            exact z_iret C O dX12_kindOfWord_92 rfl rfl
        · refine z_iconst C 3 dX12_kindOfWord_49 (by decide) ?_
          refine z_goto C dX12_kindOfWord_50 92 (by decide) ?_
          replace h := Option.some.inj h
          subst h
          exact z_iret C O dX12_kindOfWord_92 rfl rfl
      · refine z_iconst C 2 dX12_kindOfWord_37 (by decide) ?_
        refine z_goto C dX12_kindOfWord_38 92 (by decide) ?_
        replace h := Option.some.inj h
        subst h
        exact z_iret C O dX12_kindOfWord_92 rfl rfl
    · refine z_iconst C 1 dX12_kindOfWord_25 (by decide) ?_
      refine z_goto C dX12_kindOfWord_26 92 (by decide) ?_
      replace h := Option.some.inj h
      subst h
      exact z_iret C O dX12_kindOfWord_92 rfl rfl
  · refine z_iconst C 0 dX12_kindOfWord_13 (by decide) ?_
    refine z_goto C dX12_kindOfWord_14 92 (by decide) ?_
    replace h := Option.some.inj h
    subst h
    exact z_iret C O dX12_kindOfWord_92 rfl rfl
set_option maxHeartbeats 4000000 in
set_option maxRecDepth 100000 in
theorem kM_readNumbers_b197 {x : zX} {G : zG} {qM : Nat → Nat}  {out : zSt} (C : zC x G RX12 cX12_readNumbers 3 none rmX12_readNumbers) (O : zO x G none (wdM G qM out) 0 0)  {sM : zSt} {x1 : Int32} {x2 : Int32} {t0 : Int32} {t1 : Int32} (h : fM_readNumbers_b197  sM x1 x2 t0 t1 = some out) : zW x G 0 0 197 [(0, .ref (qM 0)), (1, .int x1), (2, .int x2)] [.int t0, .int t1, .ref (qM 16)] (wdM G qM sM) := by
  unfold fM_readNumbers_b197 at h
  refine rw_s_M_M_15 C dX12_readNumbers_197 h (fun sM4 h => ?_)
  refine z_aload_n C dX12_readNumbers_198 0 rfl ?_
  refine rw_g_X12_28_M_M C dX12_readNumbers_199 ?_
  refine z_iload_n C dX12_readNumbers_202 2 rfl ?_
  refine z_iconst C 4 dX12_readNumbers_203 (by decide) ?_
  refine z_iadd C dX12_readNumbers_204 ?_
  refine z_iload_n C dX12_readNumbers_205 1 rfl ?_
  refine z_iconst C 2 dX12_readNumbers_206 (by decide) ?_
  refine z_icmp_ne C dX12_readNumbers_207 220 (by decide) h (fun h => ?_) (fun h => ?_)
  · refine z_iconst C 0 dX12_readNumbers_220 (by decide) ?_
    refine rw_s_M_M_15 C dX12_readNumbers_221 h (fun sM5 h => ?_)
    refine z_goto C dX12_readNumbers_222 314 (by decide) ?_
    replace h := Option.some.inj h
    subst h
    exact z_vret C O dX12_readNumbers_314 rfl rfl
  · refine z_aload_n C dX12_readNumbers_210 0 rfl ?_
    refine z_iconst C 1 dX12_readNumbers_211 (by decide) ?_
    refine z_bipush C 99 dX12_readNumbers_212 (by decide) ?_
    obtain ⟨y6, hy6, h⟩ := bind_o h
    refine rw_c_X12_221 C (cM_numberIn hy6) 0 rfl dX12_readNumbers_214 (Nat.le_of_ble_eq_true rfl) (zrm rfl) ?_
    refine z_goto C dX12_readNumbers_217 221 (by decide) ?_
    refine rw_s_M_M_15 C dX12_readNumbers_221 h (fun sM7 h => ?_)
    refine z_goto C dX12_readNumbers_222 314 (by decide) ?_
    replace h := Option.some.inj h
    subst h
    exact z_vret C O dX12_readNumbers_314 rfl rfl
set_option maxHeartbeats 4000000 in
set_option maxRecDepth 100000 in
theorem kM_readNumbers_b150 {x : zX} {G : zG} {qM : Nat → Nat}  {out : zSt} (C : zC x G RX12 cX12_readNumbers 3 none rmX12_readNumbers) (O : zO x G none (wdM G qM out) 0 0)  {sM : zSt} {x1 : Int32} {x2 : Int32} (h : fM_readNumbers_b150  sM x1 x2 = some out) : zW x G 0 0 150 [(0, .ref (qM 0)), (1, .int x1), (2, .int x2)] [] (wdM G qM sM) := by
  unfold fM_readNumbers_b150 at h
  refine z_aload_n C dX12_readNumbers_150 0 rfl ?_
  refine rw_g_X12_28_M_M C dX12_readNumbers_151 ?_
  refine z_iload_n C dX12_readNumbers_154 2 rfl ?_
  refine z_iconst C 2 dX12_readNumbers_155 (by decide) ?_
  refine z_iadd C dX12_readNumbers_156 ?_
  refine z_aload_n C dX12_readNumbers_157 0 rfl ?_
  refine z_iconst C 0 dX12_readNumbers_158 (by decide) ?_
  refine z_aload_n C dX12_readNumbers_159 0 rfl ?_
  refine rw_g_X12_250_M_M C dX12_readNumbers_160 ?_
  refine z_iconst C 1 dX12_readNumbers_163 (by decide) ?_
  refine z_isub C dX12_readNumbers_164 ?_
  obtain ⟨y1, hy1, h⟩ := bind_o h
  refine rw_c_X12_221 C (cM_numberIn hy1) 0 rfl dX12_readNumbers_165 (Nat.le_of_ble_eq_true rfl) (zrm rfl) ?_
  refine rw_s_M_M_15 C dX12_readNumbers_168 h (fun sM2 h => ?_)
  refine z_aload_n C dX12_readNumbers_169 0 rfl ?_
  refine rw_g_X12_28_M_M C dX12_readNumbers_170 ?_
  refine z_iload_n C dX12_readNumbers_173 2 rfl ?_
  refine z_iconst C 3 dX12_readNumbers_174 (by decide) ?_
  refine z_iadd C dX12_readNumbers_175 ?_
  refine z_iload_n C dX12_readNumbers_176 1 rfl ?_
  refine z_iconst C 2 dX12_readNumbers_177 (by decide) ?_
  refine z_icmp_ne C dX12_readNumbers_178 190 (by decide) h (fun h => ?_) (fun h => ?_)
  · refine z_aload_n C dX12_readNumbers_190 0 rfl ?_
    refine z_iconst C 0 dX12_readNumbers_191 (by decide) ?_
    refine z_bipush C 99 dX12_readNumbers_192 (by decide) ?_
    obtain ⟨y3, hy3, h⟩ := bind_o h
    refine rw_c_X12_221 C (cM_numberIn hy3) 0 rfl dX12_readNumbers_194 (Nat.le_of_ble_eq_true rfl) (zrm rfl) ?_
    exact kM_readNumbers_b197 C O  h
  · refine z_aload_n C dX12_readNumbers_181 0 rfl ?_
    refine z_iconst C 0 dX12_readNumbers_182 (by decide) ?_
    refine z_iconst C 2 dX12_readNumbers_183 (by decide) ?_
    obtain ⟨y8, hy8, h⟩ := bind_o h
    refine rw_c_X12_221 C (cM_numberIn hy8) 0 rfl dX12_readNumbers_184 (Nat.le_of_ble_eq_true rfl) (zrm rfl) ?_
    refine z_goto C dX12_readNumbers_187 197 (by decide) ?_
    exact kM_readNumbers_b197 C O  h
set_option maxHeartbeats 4000000 in
set_option maxRecDepth 100000 in
theorem kM_readNumbers_b286 {x : zX} {G : zG} {qM : Nat → Nat}  {out : zSt} (C : zC x G RX12 cX12_readNumbers 3 none rmX12_readNumbers) (O : zO x G none (wdM G qM out) 0 0)  {sM : zSt} {x1 : Int32} {x2 : Int32} {t0 : Int32} {t1 : Int32} {t3 : Int32} (h : fM_readNumbers_b286  sM x1 x2 t0 t1 t3 = some out) : zW x G 0 0 286 [(0, .ref (qM 0)), (1, .int x1), (2, .int x2)] [.int t0, .int t1, .ref (qM 0), .int t3, .ref (qM 16)] (wdM G qM sM) := by
  unfold fM_readNumbers_b286 at h
  obtain ⟨y9, hy9, h⟩ := bind_o h
  refine rw_c_X12_221 C (cM_numberIn hy9) 0 rfl dX12_readNumbers_286 (Nat.le_of_ble_eq_true rfl) (zrm rfl) ?_
  refine rw_s_M_M_15 C dX12_readNumbers_289 h (fun sM10 h => ?_)
  refine z_aload_n C dX12_readNumbers_290 0 rfl ?_
  refine rw_g_X12_28_M_M C dX12_readNumbers_291 ?_
  refine z_iload_n C dX12_readNumbers_294 2 rfl ?_
  refine z_iconst C 3 dX12_readNumbers_295 (by decide) ?_
  refine z_iadd C dX12_readNumbers_296 ?_
  refine z_iload_n C dX12_readNumbers_297 1 rfl ?_
  refine z_bipush C 6 dX12_readNumbers_298 (by decide) ?_
  refine z_icmp_ne C dX12_readNumbers_300 312 (by decide) h (fun h => ?_) (fun h => ?_)
  · refine z_iconst C 0 dX12_readNumbers_312 (by decide) ?_
    refine rw_s_M_M_15 C dX12_readNumbers_313 h (fun sM11 h => ?_)
    replace h := Option.some.inj h
    subst h
    exact z_vret C O dX12_readNumbers_314 rfl rfl
  · refine z_aload_n C dX12_readNumbers_303 0 rfl ?_
    refine z_iconst C 0 dX12_readNumbers_304 (by decide) ?_
    refine z_iconst C 2 dX12_readNumbers_305 (by decide) ?_
    obtain ⟨y12, hy12, h⟩ := bind_o h
    refine rw_c_X12_221 C (cM_numberIn hy12) 0 rfl dX12_readNumbers_306 (Nat.le_of_ble_eq_true rfl) (zrm rfl) ?_
    refine z_goto C dX12_readNumbers_309 313 (by decide) ?_
    refine rw_s_M_M_15 C dX12_readNumbers_313 h (fun sM13 h => ?_)
    replace h := Option.some.inj h
    subst h
    exact z_vret C O dX12_readNumbers_314 rfl rfl
set_option maxHeartbeats 4000000 in
set_option maxRecDepth 100000 in
theorem kM_readNumbers_b131 {x : zX} {G : zG} {qM : Nat → Nat}  {out : zSt} (C : zC x G RX12 cX12_readNumbers 3 none rmX12_readNumbers) (O : zO x G none (wdM G qM out) 0 0)  {sM : zSt} {t0 : Int32} {t2 : Int32} (h : fM_readNumbers_b131  sM t0 t2 = some out) : zW x G 0 0 131 [] [.int t0, .ref (qM 0), .int t2, .ref (qM 16)] (wdM G qM sM) := by
  unfold fM_readNumbers_b131 at h
  refine z_bipush C 99 dX12_readNumbers_131 (by decide) ?_
  obtain ⟨y22, hy22, h⟩ := bind_o h
  refine rw_c_X12_221 C (cM_numberIn hy22) 0 rfl dX12_readNumbers_133 (Nat.le_of_ble_eq_true rfl) (zrm rfl) ?_
  refine rw_s_M_M_15 C dX12_readNumbers_136 h (fun sM23 h => ?_)
  refine z_goto C dX12_readNumbers_137 314 (by decide) ?_
  replace h := Option.some.inj h
  subst h
  exact z_vret C O dX12_readNumbers_314 rfl rfl
set_option maxHeartbeats 4000000 in
set_option maxRecDepth 100000 in
theorem cM_readNumbers {l : Launch} {G : zG} {qM : Nat → Nat} {sM : zSt} {a0 : Int32} {a1 : Int32} {out : zSt} (h : fM_readNumbers sM a0 a1 = some out) : Ct l G yX12_readNumbers cX12_readNumbers 3 none rmX12_readNumbers [.ref (qM 0), .int a0, .int a1] (wdM G qM sM) none (wdM G qM out) := by
  refine zMet (own := RX12) rfl (by decide) (Nat.le_of_ble_eq_true rfl) (fun x hl C O => ?_)
  show zW x G 0 0 0 [(0, .ref (qM 0)), (1, .int a0), (2, .int a1)] [] _
  unfold fM_readNumbers at h
  refine z_iload_n C dX12_readNumbers_0 1 rfl ?_
  refine z_if_ne C dX12_readNumbers_1 63 (by decide) h (fun h => ?_) (fun h => ?_)
  · refine z_iload_n C dX12_readNumbers_63 1 rfl ?_
    refine z_iconst C 1 dX12_readNumbers_64 (by decide) ?_
    refine z_icmp_ne C dX12_readNumbers_65 140 (by decide) h (fun h => ?_) (fun h => ?_)
    · refine z_iload_n C dX12_readNumbers_140 1 rfl ?_
      refine z_iconst C 2 dX12_readNumbers_141 (by decide) ?_
      refine z_icmp_eq C dX12_readNumbers_142 150 (by decide) h (fun h => ?_) (fun h => ?_)
      · exact kM_readNumbers_b150 C O  h
      · refine z_iload_n C dX12_readNumbers_145 1 rfl ?_
        refine z_iconst C 3 dX12_readNumbers_146 (by decide) ?_
        refine z_icmp_ne C dX12_readNumbers_147 225 (by decide) h (fun h => ?_) (fun h => ?_)
        · refine z_iload_n C dX12_readNumbers_225 1 rfl ?_
          refine z_iconst C 4 dX12_readNumbers_226 (by decide) ?_
          refine z_icmp_ne C dX12_readNumbers_227 262 (by decide) h (fun h => ?_) (fun h => ?_)
          · refine z_aload_n C dX12_readNumbers_262 0 rfl ?_
            refine rw_g_X12_28_M_M C dX12_readNumbers_263 ?_
            refine z_iload_n C dX12_readNumbers_266 2 rfl ?_
            refine z_iconst C 2 dX12_readNumbers_267 (by decide) ?_
            refine z_iadd C dX12_readNumbers_268 ?_
            refine z_aload_n C dX12_readNumbers_269 0 rfl ?_
            refine z_iconst C 0 dX12_readNumbers_270 (by decide) ?_
            refine z_iload_n C dX12_readNumbers_271 1 rfl ?_
            refine z_iconst C 5 dX12_readNumbers_272 (by decide) ?_
            refine z_icmp_ne C dX12_readNumbers_273 285 (by decide) h (fun h => ?_) (fun h => ?_)
            · refine z_iconst C 4 dX12_readNumbers_285 (by decide) ?_
              exact kM_readNumbers_b286 C O  h
            · refine z_aload_n C dX12_readNumbers_276 0 rfl ?_
              refine rw_g_X12_192_M_M C dX12_readNumbers_277 ?_
              refine z_iconst C 1 dX12_readNumbers_280 (by decide) ?_
              refine z_isub C dX12_readNumbers_281 ?_
              refine z_goto C dX12_readNumbers_282 286 (by decide) ?_
              exact kM_readNumbers_b286 C O  h
          · refine z_aload_n C dX12_readNumbers_230 0 rfl ?_
            refine rw_g_X12_28_M_M C dX12_readNumbers_231 ?_
            refine z_iload_n C dX12_readNumbers_234 2 rfl ?_
            refine z_iconst C 2 dX12_readNumbers_235 (by decide) ?_
            refine z_iadd C dX12_readNumbers_236 ?_
            refine z_aload_n C dX12_readNumbers_237 0 rfl ?_
            refine z_iconst C 0 dX12_readNumbers_238 (by decide) ?_
            refine z_iconst C 2 dX12_readNumbers_239 (by decide) ?_
            obtain ⟨y14, hy14, h⟩ := bind_o h
            refine rw_c_X12_221 C (cM_numberIn hy14) 0 rfl dX12_readNumbers_240 (Nat.le_of_ble_eq_true rfl) (zrm rfl) ?_
            refine rw_s_M_M_15 C dX12_readNumbers_243 h (fun sM15 h => ?_)
            refine z_aload_n C dX12_readNumbers_244 0 rfl ?_
            refine rw_g_X12_28_M_M C dX12_readNumbers_245 ?_
            refine z_iload_n C dX12_readNumbers_248 2 rfl ?_
            refine z_iconst C 3 dX12_readNumbers_249 (by decide) ?_
            refine z_iadd C dX12_readNumbers_250 ?_
            refine z_aload_n C dX12_readNumbers_251 0 rfl ?_
            refine z_iconst C 1 dX12_readNumbers_252 (by decide) ?_
            refine z_bipush C 99 dX12_readNumbers_253 (by decide) ?_
            obtain ⟨y16, hy16, h⟩ := bind_o h
            refine rw_c_X12_221 C (cM_numberIn hy16) 0 rfl dX12_readNumbers_255 (Nat.le_of_ble_eq_true rfl) (zrm rfl) ?_
            refine rw_s_M_M_15 C dX12_readNumbers_258 h (fun sM17 h => ?_)
            refine z_goto C dX12_readNumbers_259 314 (by decide) ?_
            replace h := Option.some.inj h
            subst h
            exact z_vret C O dX12_readNumbers_314 rfl rfl
        · exact kM_readNumbers_b150 C O  h
    · refine z_aload_n C dX12_readNumbers_68 0 rfl ?_
      refine rw_g_X12_28_M_M C dX12_readNumbers_69 ?_
      refine z_iload_n C dX12_readNumbers_72 2 rfl ?_
      refine z_iconst C 2 dX12_readNumbers_73 (by decide) ?_
      refine z_iadd C dX12_readNumbers_74 ?_
      refine z_aload_n C dX12_readNumbers_75 0 rfl ?_
      refine z_iconst C 0 dX12_readNumbers_76 (by decide) ?_
      refine z_bipush C 99 dX12_readNumbers_77 (by decide) ?_
      obtain ⟨y18, hy18, h⟩ := bind_o h
      refine rw_c_X12_221 C (cM_numberIn hy18) 0 rfl dX12_readNumbers_79 (Nat.le_of_ble_eq_true rfl) (zrm rfl) ?_
      refine rw_s_M_M_15 C dX12_readNumbers_82 h (fun sM19 h => ?_)
      refine z_aload_n C dX12_readNumbers_83 0 rfl ?_
      refine rw_g_X12_28_M_M C dX12_readNumbers_84 ?_
      refine z_iload_n C dX12_readNumbers_87 2 rfl ?_
      refine z_iconst C 3 dX12_readNumbers_88 (by decide) ?_
      refine z_iadd C dX12_readNumbers_89 ?_
      refine z_aload_n C dX12_readNumbers_90 0 rfl ?_
      refine z_iconst C 0 dX12_readNumbers_91 (by decide) ?_
      refine z_bipush C 99 dX12_readNumbers_92 (by decide) ?_
      obtain ⟨y20, hy20, h⟩ := bind_o h
      refine rw_c_X12_221 C (cM_numberIn hy20) 0 rfl dX12_readNumbers_94 (Nat.le_of_ble_eq_true rfl) (zrm rfl) ?_
      refine rw_s_M_M_15 C dX12_readNumbers_97 h (fun sM21 h => ?_)
      refine z_aload_n C dX12_readNumbers_98 0 rfl ?_
      refine rw_g_X12_28_M_M C dX12_readNumbers_99 ?_
      refine z_iload_n C dX12_readNumbers_102 2 rfl ?_
      refine z_iconst C 4 dX12_readNumbers_103 (by decide) ?_
      refine z_iadd C dX12_readNumbers_104 ?_
      refine z_aload_n C dX12_readNumbers_105 0 rfl ?_
      refine z_aload_n C dX12_readNumbers_106 0 rfl ?_
      refine rw_g_X12_28_M_M C dX12_readNumbers_107 ?_
      refine z_iload_n C dX12_readNumbers_110 2 rfl ?_
      refine z_iconst C 2 dX12_readNumbers_111 (by decide) ?_
      refine z_iadd C dX12_readNumbers_112 ?_
      refine rw_l_M_M_15 C dX12_readNumbers_113 h (fun h => ?_)
      refine z_aload_n C dX12_readNumbers_114 0 rfl ?_
      refine rw_g_X12_28_M_M C dX12_readNumbers_115 ?_
      refine z_iload_n C dX12_readNumbers_118 2 rfl ?_
      refine z_iconst C 3 dX12_readNumbers_119 (by decide) ?_
      refine z_iadd C dX12_readNumbers_120 ?_
      refine rw_l_M_M_15 C dX12_readNumbers_121 h (fun h => ?_)
      refine z_iadd C dX12_readNumbers_122 ?_
      refine z_if_le C dX12_readNumbers_123 130 (by decide) h (fun h => ?_) (fun h => ?_)
      · refine z_iconst C 1 dX12_readNumbers_130 (by decide) ?_
        refine z_perm [] (lv' := []) rfl ?_
        exact kM_readNumbers_b131 C O  h
      · refine z_iconst C 0 dX12_readNumbers_126 (by decide) ?_
        refine z_goto C dX12_readNumbers_127 131 (by decide) ?_
        refine z_perm [] (lv' := []) rfl ?_
        exact kM_readNumbers_b131 C O  h
  · refine z_aload_n C dX12_readNumbers_4 0 rfl ?_
    refine rw_g_X12_28_M_M C dX12_readNumbers_5 ?_
    refine z_iload_n C dX12_readNumbers_8 2 rfl ?_
    refine z_iconst C 2 dX12_readNumbers_9 (by decide) ?_
    refine z_iadd C dX12_readNumbers_10 ?_
    refine z_aload_n C dX12_readNumbers_11 0 rfl ?_
    refine z_ldc2 C rw_u_1241 dX12_readNumbers_12 ?_
    refine z_ldc2 C rw_u_1242 dX12_readNumbers_15 ?_
    refine z_ldc2 C rw_u_1243 dX12_readNumbers_18 ?_
    refine z_ldc2 C rw_u_1244 dX12_readNumbers_21 ?_
    refine z_ldc2 C rw_u_1201 dX12_readNumbers_24 ?_
    obtain ⟨y24, hy24, h⟩ := bind_o h
    refine rw_c_X12_201 C (cM_oneOf hy24) 0 rfl dX12_readNumbers_27 (Nat.le_of_ble_eq_true rfl) (zrm rfl) ?_
    refine rw_s_M_M_15 C dX12_readNumbers_30 h (fun sM25 h => ?_)
    refine z_aload_n C dX12_readNumbers_31 0 rfl ?_
    refine rw_g_X12_28_M_M C dX12_readNumbers_32 ?_
    refine z_iload_n C dX12_readNumbers_35 2 rfl ?_
    refine z_iconst C 3 dX12_readNumbers_36 (by decide) ?_
    refine z_iadd C dX12_readNumbers_37 ?_
    refine z_aload_n C dX12_readNumbers_38 0 rfl ?_
    refine z_iconst C 0 dX12_readNumbers_39 (by decide) ?_
    refine z_iconst C 1 dX12_readNumbers_40 (by decide) ?_
    obtain ⟨y26, hy26, h⟩ := bind_o h
    refine rw_c_X12_221 C (cM_numberIn hy26) 0 rfl dX12_readNumbers_41 (Nat.le_of_ble_eq_true rfl) (zrm rfl) ?_
    refine rw_s_M_M_15 C dX12_readNumbers_44 h (fun sM27 h => ?_)
    refine z_aload_n C dX12_readNumbers_45 0 rfl ?_
    refine rw_g_X12_28_M_M C dX12_readNumbers_46 ?_
    refine z_iload_n C dX12_readNumbers_49 2 rfl ?_
    refine z_iconst C 4 dX12_readNumbers_50 (by decide) ?_
    refine z_iadd C dX12_readNumbers_51 ?_
    refine z_aload_n C dX12_readNumbers_52 0 rfl ?_
    refine z_iconst C 1 dX12_readNumbers_53 (by decide) ?_
    refine z_bipush C 99 dX12_readNumbers_54 (by decide) ?_
    obtain ⟨y28, hy28, h⟩ := bind_o h
    refine rw_c_X12_221 C (cM_numberIn hy28) 0 rfl dX12_readNumbers_56 (Nat.le_of_ble_eq_true rfl) (zrm rfl) ?_
    refine rw_s_M_M_15 C dX12_readNumbers_59 h (fun sM29 h => ?_)
    refine z_goto C dX12_readNumbers_60 314 (by decide) ?_
    replace h := Option.some.inj h
    subst h
    exact z_vret C O dX12_readNumbers_314 rfl rfl
set_option maxHeartbeats 4000000 in
set_option maxRecDepth 100000 in
theorem kM_readEvent_b65 {x : zX} {G : zG} {qM : Nat → Nat}  {out : zSt} (C : zC x G RX12 cX12_readEvent 5 none rmX12_readEvent) (O : zO x G none (wdM G qM out) 0 0)  {sM : zSt} {x1 : Int32} {x2 : Int32} {x3 : Int32} {t0 : Int32} (h : fM_readEvent_b65  sM x1 x2 x3 t0 = some out) : zW x G 0 0 65 [(0, .ref (qM 0)), (1, .int x1), (2, .int x2), (3, .int x3)] [.int t0, .ref (qM 0)] (wdM G qM sM) := by
  unfold fM_readEvent_b65 at h
  obtain ⟨y2, hy2, h⟩ := bind_o h
  refine rw_c_X12_182 C (cM_must hy2) 0 rfl dX12_readEvent_65 (Nat.le_of_ble_eq_true rfl) (zrm rfl) ?_
  refine z_aload_n C dX12_readEvent_68 0 rfl ?_
  refine rw_g_X12_169_M_M C dX12_readEvent_69 ?_
  refine z_if_le C dX12_readEvent_72 76 (by decide) h (fun h => ?_) (fun h => ?_)
  · refine z_bipush C 6 dX12_readEvent_76 (by decide) ?_
    refine z_aload_n C dX12_readEvent_78 0 rfl ?_
    refine rw_g_X12_257_M_M C dX12_readEvent_79 ?_
    refine z_imul C dX12_readEvent_82 ?_
    refine z_istoreN C dX12_readEvent_83 (by decide) (lvr := [(0, .ref (qM 0)), (1, .int x1), (2, .int x2), (3, .int x3)]) rfl h (fun x4_3 h => ?_)
    refine z_aload_n C dX12_readEvent_85 1 rfl ?_
    refine rw_g_X12_28_M_M C dX12_readEvent_86 ?_
    refine z_iload C dX12_readEvent_89 0 rfl ?_
    refine z_iload_n C dX12_readEvent_91 3 rfl ?_
    refine rw_s_M_M_15 C dX12_readEvent_92 h (fun sM4 h => ?_)
    refine z_aload_n C dX12_readEvent_93 1 rfl ?_
    refine rw_g_X12_28_M_M C dX12_readEvent_94 ?_
    refine z_iload C dX12_readEvent_97 0 rfl ?_
    refine z_iconst C 1 dX12_readEvent_99 (by decide) ?_
    refine z_iadd C dX12_readEvent_100 ?_
    refine z_aload_n C dX12_readEvent_101 1 rfl ?_
    refine z_iload_n C dX12_readEvent_102 2 rfl ?_
    refine z_sipush C 999 dX12_readEvent_103 (by decide) ?_
    obtain ⟨y5, hy5, h⟩ := bind_o h
    refine rw_c_X12_221 C (cM_numberIn hy5) 0 rfl dX12_readEvent_106 (Nat.le_of_ble_eq_true rfl) (zrm rfl) ?_
    refine rw_s_M_M_15 C dX12_readEvent_109 h (fun sM6 h => ?_)
    refine z_aload_n C dX12_readEvent_110 1 rfl ?_
    refine z_iload_n C dX12_readEvent_111 3 rfl ?_
    refine z_iload C dX12_readEvent_112 0 rfl ?_
    obtain ⟨y7, hy7, h⟩ := bind_o h
    refine rw_c_X12_260 C (cM_readNumbers hy7) 0 rfl dX12_readEvent_114 (Nat.le_of_ble_eq_true rfl) (zrm rfl) ?_
    refine z_aload_n C dX12_readEvent_117 1 rfl ?_
    obtain ⟨y8, hy8, h⟩ := bind_o h
    refine rw_c_X12_225 C (cM_mustEnd hy8) 0 rfl dX12_readEvent_118 (Nat.le_of_ble_eq_true rfl) (zrm rfl) ?_
    refine z_aload_n C dX12_readEvent_121 1 rfl ?_
    refine z_dup C dX12_readEvent_122 rfl ?_
    refine rw_g_X12_257_M_M C dX12_readEvent_123 ?_
    refine z_iconst C 1 dX12_readEvent_126 (by decide) ?_
    refine z_iadd C dX12_readEvent_127 ?_
    refine rw_p_X12_257_M_M C dX12_readEvent_128 h (fun sM9 h => ?_)
    refine z_aload_n C dX12_readEvent_131 1 rfl ?_
    refine z_dup C dX12_readEvent_132 rfl ?_
    refine rw_g_X12_250_M_M C dX12_readEvent_133 ?_
    refine z_iload_n C dX12_readEvent_136 4 rfl ?_
    refine z_if_eq C dX12_readEvent_137 144 (by decide) h (fun h => ?_) (fun h => ?_)
    · refine z_iconst C 0 dX12_readEvent_144 (by decide) ?_
      refine z_iadd C dX12_readEvent_145 ?_
      refine rw_p_X12_250_M_M C dX12_readEvent_146 h (fun sM10 h => ?_)
      replace h := Option.some.inj h
      subst h
      exact z_vret C O dX12_readEvent_149 rfl rfl
    · refine z_iconst C 1 dX12_readEvent_140 (by decide) ?_
      refine z_goto C dX12_readEvent_141 145 (by decide) ?_
      refine z_iadd C dX12_readEvent_145 ?_
      refine rw_p_X12_250_M_M C dX12_readEvent_146 h (fun sM11 h => ?_)
      replace h := Option.some.inj h
      subst h
      exact z_vret C O dX12_readEvent_149 rfl rfl
  · replace h := Option.some.inj h
    subst h
    exact z_vret C O dX12_readEvent_75 rfl rfl
set_option maxHeartbeats 4000000 in
set_option maxRecDepth 100000 in
theorem kM_readEvent_b53 {x : zX} {G : zG} {qM : Nat → Nat}  {out : zSt} (C : zC x G RX12 cX12_readEvent 5 none rmX12_readEvent) (O : zO x G none (wdM G qM out) 0 0)  {sM : zSt} {x1 : Int32} {x2 : Int32} {x3 : Int32} (h : fM_readEvent_b53  sM x1 x2 x3 = some out) : zW x G 0 0 53 [(0, .ref (qM 0)), (1, .int x1), (2, .int x2), (3, .int x3)] [] (wdM G qM sM) := by
  unfold fM_readEvent_b53 at h
  refine z_aload_n C dX12_readEvent_53 0 rfl ?_
  refine z_iload_n C dX12_readEvent_54 2 rfl ?_
  refine z_ldc C rw_u_1175 dX12_readEvent_55 ?_
  refine z_icmp_eq C dX12_readEvent_57 64 (by decide) h (fun h => ?_) (fun h => ?_)
  · refine z_iconst C 0 dX12_readEvent_64 (by decide) ?_
    exact kM_readEvent_b65 C O  h
  · refine z_iconst C 1 dX12_readEvent_60 (by decide) ?_
    refine z_goto C dX12_readEvent_61 65 (by decide) ?_
    exact kM_readEvent_b65 C O  h
set_option maxHeartbeats 4000000 in
set_option maxRecDepth 100000 in
theorem kM_readEvent_b35 {x : zX} {G : zG} {qM : Nat → Nat}  {out : zSt} (C : zC x G RX12 cX12_readEvent 5 none rmX12_readEvent) (O : zO x G none (wdM G qM out) 0 0)  {sM : zSt} {x1 : Int32} {x2 : Int32} {x3 : Int32} (h : fM_readEvent_b35  sM x1 x2 x3 = some out) : zW x G 0 0 35 [(0, .ref (qM 0)), (1, .int x1), (2, .int x2), (3, .int x3)] [] (wdM G qM sM) := by
  unfold fM_readEvent_b35 at h
  refine z_iload_n C dX12_readEvent_35 3 rfl ?_
  refine z_if_eq C dX12_readEvent_36 53 (by decide) h (fun h => ?_) (fun h => ?_)
  · exact kM_readEvent_b53 C O  h
  · refine z_aload_n C dX12_readEvent_39 0 rfl ?_
    refine rw_g_X12_250_M_M C dX12_readEvent_40 ?_
    refine z_bipush C 10 dX12_readEvent_43 (by decide) ?_
    refine z_icmp_ne C dX12_readEvent_45 53 (by decide) h (fun h => ?_) (fun h => ?_)
    · exact kM_readEvent_b53 C O  h
    · refine z_aload_n C dX12_readEvent_48 0 rfl ?_
      refine z_iconst C 3 dX12_readEvent_49 (by decide) ?_
      obtain ⟨y12, hy12, h⟩ := bind_o h
      refine rw_c_X12_175 C (cM_bad hy12) 0 rfl dX12_readEvent_50 (Nat.le_of_ble_eq_true rfl) (zrm rfl) ?_
      exact kM_readEvent_b53 C O  h
set_option maxHeartbeats 4000000 in
set_option maxRecDepth 100000 in
theorem kM_readEvent_b19 {x : zX} {G : zG} {qM : Nat → Nat}  {out : zSt} (C : zC x G RX12 cX12_readEvent 5 none rmX12_readEvent) (O : zO x G none (wdM G qM out) 0 0)  {sM : zSt} {x1 : Int32} {x2 : Int32} {t0 : Int32} (h : fM_readEvent_b19  sM x1 x2 t0 = some out) : zW x G 0 0 19 [(0, .ref (qM 0)), (1, .int x1), (2, .int x2)] [.int t0] (wdM G qM sM) := by
  unfold fM_readEvent_b19 at h
  refine z_istore_n C dX12_readEvent_19 (by decide) (lvr := [(0, .ref (qM 0)), (1, .int x1), (2, .int x2)]) rfl ?_
  refine z_iload_n C dX12_readEvent_20 3 rfl ?_
  refine z_ldc C rw_u_1175 dX12_readEvent_21 ?_
  refine z_icmp_eq C dX12_readEvent_23 35 (by decide) h (fun h => ?_) (fun h => ?_)
  · refine z_perm [1, 2, 3, 0] (lv' := [(0, .ref (qM 0)), (1, .int x1), (2, .int x2), (3, .int t0)]) rfl ?_
    exact kM_readEvent_b35 C O  h
  · refine z_aload_n C dX12_readEvent_26 1 rfl ?_
    refine rw_g_X12_257_M_M C dX12_readEvent_27 ?_
    refine z_bipush C 30 dX12_readEvent_30 (by decide) ?_
    refine z_icmp_eq C dX12_readEvent_32 48 (by decide) h (fun h => ?_) (fun h => ?_)
    · refine z_aload_n C dX12_readEvent_48 1 rfl ?_
      refine z_iconst C 3 dX12_readEvent_49 (by decide) ?_
      obtain ⟨y13, hy13, h⟩ := bind_o h
      refine rw_c_X12_175 C (cM_bad hy13) 0 rfl dX12_readEvent_50 (Nat.le_of_ble_eq_true rfl) (zrm rfl) ?_
      refine z_perm [1, 2, 3, 0] (lv' := [(0, .ref (qM 0)), (1, .int x1), (2, .int x2), (3, .int t0)]) rfl ?_
      exact kM_readEvent_b53 C O  h
    · refine z_perm [1, 2, 3, 0] (lv' := [(0, .ref (qM 0)), (1, .int x1), (2, .int x2), (3, .int t0)]) rfl ?_
      exact kM_readEvent_b35 C O  h
set_option maxHeartbeats 4000000 in
set_option maxRecDepth 100000 in
theorem cM_readEvent {l : Launch} {G : zG} {qM : Nat → Nat} {sM : zSt} {a0 : Int32} {out : zSt} (h : fM_readEvent sM a0 = some out) : Ct l G yX12_readEvent cX12_readEvent 5 none rmX12_readEvent [.ref (qM 0), .int a0] (wdM G qM sM) none (wdM G qM out) := by
  refine zMet (own := RX12) rfl (by decide) (Nat.le_of_ble_eq_true rfl) (fun x hl C O => ?_)
  show zW x G 0 0 0 [(0, .ref (qM 0)), (1, .int a0)] [] _
  unfold fM_readEvent at h
  refine z_aload_n C dX12_readEvent_0 0 rfl ?_
  obtain ⟨y1, hy1, h⟩ := bind_o h
  refine rw_c_X12_253 C (cM_kindOfWord hy1) 0 rfl dX12_readEvent_1 (Nat.le_of_ble_eq_true rfl) (zrm rfl) ?_
  refine z_istore_n C dX12_readEvent_4 (by decide) (lvr := [(0, .ref (qM 0)), (1, .int a0)]) rfl ?_
  refine z_iload_n C dX12_readEvent_5 0 rfl ?_
  refine z_if_eq C dX12_readEvent_6 14 (by decide) h (fun h => ?_) (fun h => ?_)
  · refine z_iconst C 1 dX12_readEvent_14 (by decide) ?_
    refine z_goto C dX12_readEvent_15 19 (by decide) ?_
    refine z_perm [1, 2, 0] (lv' := [(0, .ref (qM 0)), (1, .int a0), (2, .int y1)]) rfl ?_
    exact kM_readEvent_b19 C O  h
  · refine z_iload_n C dX12_readEvent_9 0 rfl ?_
    refine z_iconst C 1 dX12_readEvent_10 (by decide) ?_
    refine z_icmp_ne C dX12_readEvent_11 18 (by decide) h (fun h => ?_) (fun h => ?_)
    · refine z_iconst C 0 dX12_readEvent_18 (by decide) ?_
      refine z_perm [1, 2, 0] (lv' := [(0, .ref (qM 0)), (1, .int a0), (2, .int y1)]) rfl ?_
      exact kM_readEvent_b19 C O  h
    · refine z_iconst C 1 dX12_readEvent_14 (by decide) ?_
      refine z_goto C dX12_readEvent_15 19 (by decide) ?_
      refine z_perm [1, 2, 0] (lv' := [(0, .ref (qM 0)), (1, .int a0), (2, .int y1)]) rfl ?_
      exact kM_readEvent_b19 C O  h
set_option maxHeartbeats 4000000 in
set_option maxRecDepth 100000 in
theorem kM_life_l199b {x : zX} {G : zG} {qM : Nat → Nat}  {out : Int64 × zSt} (C : zC x G RX12 cX12_life 2 (some .long) rmX12_life) (O : zO x G (some (.long out.1)) (wdM G qM out.2) 0 0) {K199 : zSt → Int32 → Option (Int64 × zSt)} (hK199 : ∀ (sM : zSt) (x1 : Int32), K199 sM x1 = some out → zW x G 0 0 199 [(0, .ref (qM 0)), (1, .int x1)] [] (wdM G qM sM)) {sM : zSt} {x1 : Int32} (h : fM_life_l199b K199 sM x1 = some out) : zW x G 0 0 199 [(0, .ref (qM 0)), (1, .int x1)] [] (wdM G qM sM) := by
  unfold fM_life_l199b at h
  refine z_iload_n C dX12_life_199 1 rfl ?_
  refine z_bipush C 32 dX12_life_200 (by decide) ?_
  refine z_icmp_ge C dX12_life_202 223 (by decide) h (fun h => ?_) (fun h => ?_)
  · refine z_aload_n C dX12_life_223 0 rfl ?_
    refine rw_g_X12_282_M_M C dX12_life_224 ?_
    refine z_i2l C dX12_life_227 ?_
    replace h := Option.some.inj h
    subst h
    exact z_lret C O dX12_life_228 rfl rfl
  · refine z_aload_n C dX12_life_205 0 rfl ?_
    refine rw_g_X12_19_M_M C dX12_life_206 ?_
    refine z_iload_n C dX12_life_209 1 rfl ?_
    refine z_aload_n C dX12_life_210 0 rfl ?_
    refine rw_g_X12_25_M_M C dX12_life_211 ?_
    refine z_iload_n C dX12_life_214 1 rfl ?_
    refine rw_l_M_M_14 C dX12_life_215 h (fun h => ?_)
    refine rw_s_M_M_9 C dX12_life_216 h (fun sM16 h => ?_)
    refine z_iinc C dX12_life_217 1 rfl 1 (by decide) (by decide) (lvr := [(0, .ref (qM 0))]) rfl h (fun x1_17 h => ?_)
    refine z_goto C dX12_life_220 199 (by decide) ?_
    refine z_perm [1, 0] (lv' := [(0, .ref (qM 0)), (1, .int x1_17)]) rfl ?_
    exact hK199 _  _ h
set_option maxHeartbeats 4000000 in
set_option maxRecDepth 100000 in
theorem kM_life_l199 {x : zX} {G : zG} {qM : Nat → Nat}  {out : Int64 × zSt} (C : zC x G RX12 cX12_life 2 (some .long) rmX12_life) (O : zO x G (some (.long out.1)) (wdM G qM out.2) 0 0)  : ∀ (n : Nat) {sM : zSt} {x1 : Int32}, fM_life_l199  n sM x1 = some out → zW x G 0 0 199 [(0, .ref (qM 0)), (1, .int x1)] [] (wdM G qM sM) := by
  intro n
  induction n with
  | zero =>
    intro sM x1 h
    have h : (none : Option (Int64 × zSt)) = some out := h
    cases h
  | succ n ih =>
    intro sM x1 h
    exact kM_life_l199b C O (K199 := fun v0 v1 => fM_life_l199  n v0 v1) (fun sM x1 h => ih h) h
set_option maxHeartbeats 4000000 in
set_option maxRecDepth 100000 in
theorem kM_life_l172b {x : zX} {G : zG} {qM : Nat → Nat}  {out : Int64 × zSt} (C : zC x G RX12 cX12_life 2 (some .long) rmX12_life) (O : zO x G (some (.long out.1)) (wdM G qM out.2) 0 0) {K172 : zSt → Int32 → Option (Int64 × zSt)} (hK172 : ∀ (sM : zSt) (x1 : Int32), K172 sM x1 = some out → zW x G 0 0 172 [(0, .ref (qM 0)), (1, .int x1)] [] (wdM G qM sM)) {sM : zSt} {x1 : Int32} (h : fM_life_l172b K172 sM x1 = some out) : zW x G 0 0 172 [(0, .ref (qM 0)), (1, .int x1)] [] (wdM G qM sM) := by
  unfold fM_life_l172b at h
  refine z_iload_n C dX12_life_172 1 rfl ?_
  refine z_sipush C 180 dX12_life_173 (by decide) ?_
  refine z_icmp_ge C dX12_life_176 197 (by decide) h (fun h => ?_) (fun h => ?_)
  · refine z_iconst C 0 dX12_life_197 (by decide) ?_
    refine z_istore_n C dX12_life_198 (by decide) (lvr := [(0, .ref (qM 0))]) rfl ?_
    refine z_perm [1, 0] (lv' := [(0, .ref (qM 0)), (1, .int 0)]) rfl ?_
    exact kM_life_l199 C O  zF h
  · refine z_aload_n C dX12_life_179 0 rfl ?_
    refine rw_g_X12_22_M_M C dX12_life_180 ?_
    refine z_iload_n C dX12_life_183 1 rfl ?_
    refine z_aload_n C dX12_life_184 0 rfl ?_
    refine rw_g_X12_28_M_M C dX12_life_185 ?_
    refine z_iload_n C dX12_life_188 1 rfl ?_
    refine rw_l_M_M_15 C dX12_life_189 h (fun h => ?_)
    refine rw_s_M_M_10 C dX12_life_190 h (fun sM18 h => ?_)
    refine z_iinc C dX12_life_191 1 rfl 1 (by decide) (by decide) (lvr := [(0, .ref (qM 0))]) rfl h (fun x1_19 h => ?_)
    refine z_goto C dX12_life_194 172 (by decide) ?_
    refine z_perm [1, 0] (lv' := [(0, .ref (qM 0)), (1, .int x1_19)]) rfl ?_
    exact hK172 _  _ h
set_option maxHeartbeats 4000000 in
set_option maxRecDepth 100000 in
theorem kM_life_l172 {x : zX} {G : zG} {qM : Nat → Nat}  {out : Int64 × zSt} (C : zC x G RX12 cX12_life 2 (some .long) rmX12_life) (O : zO x G (some (.long out.1)) (wdM G qM out.2) 0 0)  : ∀ (n : Nat) {sM : zSt} {x1 : Int32}, fM_life_l172  n sM x1 = some out → zW x G 0 0 172 [(0, .ref (qM 0)), (1, .int x1)] [] (wdM G qM sM) := by
  intro n
  induction n with
  | zero =>
    intro sM x1 h
    have h : (none : Option (Int64 × zSt)) = some out := h
    cases h
  | succ n ih =>
    intro sM x1 h
    exact kM_life_l172b C O (K172 := fun v0 v1 => fM_life_l172  n v0 v1) (fun sM x1 h => ih h) h
set_option maxHeartbeats 4000000 in
set_option maxRecDepth 100000 in
theorem kM_life_b116 {x : zX} {G : zG} {qM : Nat → Nat}  {out : Int64 × zSt} (C : zC x G RX12 cX12_life 2 (some .long) rmX12_life) (O : zO x G (some (.long out.1)) (wdM G qM out.2) 0 0)  {sM : zSt}  (h : fM_life_b116  sM  = some out) : zW x G 0 0 116 [(0, .ref (qM 0))] [] (wdM G qM sM) := by
  unfold fM_life_b116 at h
  refine z_aload_n C dX12_life_116 0 rfl ?_
  refine rw_g_X12_169_M_M C dX12_life_117 ?_
  refine z_if_le C dX12_life_120 141 (by decide) h (fun h => ?_) (fun h => ?_)
  · refine z_aload_n C dX12_life_141 0 rfl ?_
    refine z_iconst C 1 dX12_life_142 (by decide) ?_
    refine rw_p_X12_275_M_M C dX12_life_143 rfl rfl h (fun sM12 h => ?_)
    refine z_aload_n C dX12_life_146 0 rfl ?_
    refine z_aload_n C dX12_life_147 0 rfl ?_
    refine rw_g_X12_192_M_M C dX12_life_148 ?_
    refine rw_p_X12_279_M_M C dX12_life_151 h (fun sM13 h => ?_)
    refine z_aload_n C dX12_life_154 0 rfl ?_
    refine z_aload_n C dX12_life_155 0 rfl ?_
    refine rw_g_X12_257_M_M C dX12_life_156 ?_
    refine rw_p_X12_282_M_M C dX12_life_159 h (fun sM14 h => ?_)
    refine z_aload_n C dX12_life_162 0 rfl ?_
    refine z_aload_n C dX12_life_163 0 rfl ?_
    refine rw_g_X12_250_M_M C dX12_life_164 ?_
    refine rw_p_X12_285_M_M C dX12_life_167 h (fun sM15 h => ?_)
    refine z_iconst C 0 dX12_life_170 (by decide) ?_
    refine z_istore_n C dX12_life_171 (by decide) (lvr := [(0, .ref (qM 0))]) rfl ?_
    refine z_perm [1, 0] (lv' := [(0, .ref (qM 0)), (1, .int 0)]) rfl ?_
    exact kM_life_l172 C O  zF h
  · refine z_aload_n C dX12_life_123 0 rfl ?_
    refine z_aload_n C dX12_life_124 0 rfl ?_
    refine rw_g_X12_169_M_M C dX12_life_125 ?_
    refine rw_p_X12_270_M_M C dX12_life_128 h (fun sM20 h => ?_)
    refine z_ldc2 C rw_u_1245 dX12_life_131 ?_
    refine z_aload_n C dX12_life_134 0 rfl ?_
    refine rw_g_X12_172_M_M C dX12_life_135 ?_
    refine z_i2l C dX12_life_138 ?_
    refine z_lsub C dX12_life_139 ?_
    replace h := Option.some.inj h
    subst h
    exact z_lret C O dX12_life_140 rfl rfl
set_option maxHeartbeats 4000000 in
set_option maxRecDepth 100000 in
theorem kM_life_l69b {x : zX} {G : zG} {qM : Nat → Nat}  {out : Int64 × zSt} (C : zC x G RX12 cX12_life 2 (some .long) rmX12_life) (O : zO x G (some (.long out.1)) (wdM G qM out.2) 0 0) {K69 : zSt → Option (Int64 × zSt)} (hK69 : ∀ (sM : zSt) , K69 sM  = some out → zW x G 0 0 69 [(0, .ref (qM 0))] [] (wdM G qM sM)) {sM : zSt}  (h : fM_life_l69b K69 sM  = some out) : zW x G 0 0 69 [(0, .ref (qM 0))] [] (wdM G qM sM) := by
  unfold fM_life_l69b at h
  refine z_aload_n C dX12_life_69 0 rfl ?_
  refine rw_g_X12_169_M_M C dX12_life_70 ?_
  refine z_if_ne C dX12_life_73 116 (by decide) h (fun h => ?_) (fun h => ?_)
  · exact kM_life_b116 C O  h
  · refine z_aload_n C dX12_life_76 0 rfl ?_
    refine rw_g_X12_157_M_M C dX12_life_77 ?_
    refine z_iconst C 1 dX12_life_80 (by decide) ?_
    refine z_icmp_eq C dX12_life_81 116 (by decide) h (fun h => ?_) (fun h => ?_)
    · exact kM_life_b116 C O  h
    · refine z_aload_n C dX12_life_84 0 rfl ?_
      refine z_aload_n C dX12_life_85 0 rfl ?_
      refine rw_g_X12_257_M_M C dX12_life_86 ?_
      refine z_if_ne C dX12_life_89 96 (by decide) h (fun h => ?_) (fun h => ?_)
      · refine z_aload_n C dX12_life_96 0 rfl ?_
        refine rw_g_X12_28_M_M C dX12_life_97 ?_
        refine z_bipush C 6 dX12_life_100 (by decide) ?_
        refine z_aload_n C dX12_life_102 0 rfl ?_
        refine rw_g_X12_257_M_M C dX12_life_103 ?_
        refine z_imul C dX12_life_106 ?_
        refine z_iconst C 5 dX12_life_107 (by decide) ?_
        refine z_isub C dX12_life_108 ?_
        refine rw_l_M_M_15 C dX12_life_109 h (fun h => ?_)
        obtain ⟨y21, hy21, h⟩ := bind_o h
        refine rw_c_X12_267 C (cM_readEvent hy21) 0 rfl dX12_life_110 (Nat.le_of_ble_eq_true rfl) (zrm rfl) ?_
        refine z_goto C dX12_life_113 69 (by decide) ?_
        exact hK69 _   h
      · refine z_iconst C 0 dX12_life_92 (by decide) ?_
        refine z_goto C dX12_life_93 110 (by decide) ?_
        obtain ⟨y22, hy22, h⟩ := bind_o h
        refine rw_c_X12_267 C (cM_readEvent hy22) 0 rfl dX12_life_110 (Nat.le_of_ble_eq_true rfl) (zrm rfl) ?_
        refine z_goto C dX12_life_113 69 (by decide) ?_
        exact hK69 _   h
set_option maxHeartbeats 4000000 in
set_option maxRecDepth 100000 in
theorem kM_life_l69 {x : zX} {G : zG} {qM : Nat → Nat}  {out : Int64 × zSt} (C : zC x G RX12 cX12_life 2 (some .long) rmX12_life) (O : zO x G (some (.long out.1)) (wdM G qM out.2) 0 0)  : ∀ (n : Nat) {sM : zSt} , fM_life_l69  n sM  = some out → zW x G 0 0 69 [(0, .ref (qM 0))] [] (wdM G qM sM) := by
  intro n
  induction n with
  | zero =>
    intro sM  h
    have h : (none : Option (Int64 × zSt)) = some out := h
    cases h
  | succ n ih =>
    intro sM  h
    exact kM_life_l69b C O (K69 := fun v0 => fM_life_l69  n v0) (fun sM  h => ih h) h
set_option maxHeartbeats 4000000 in
set_option maxRecDepth 100000 in
theorem kM_life_l51b {x : zX} {G : zG} {qM : Nat → Nat}  {out : Int64 × zSt} (C : zC x G RX12 cX12_life 2 (some .long) rmX12_life) (O : zO x G (some (.long out.1)) (wdM G qM out.2) 0 0) {K51 : zSt → Option (Int64 × zSt)} (hK51 : ∀ (sM : zSt) , K51 sM  = some out → zW x G 0 0 51 [(0, .ref (qM 0))] [] (wdM G qM sM)) {sM : zSt}  (h : fM_life_l51b K51 sM  = some out) : zW x G 0 0 51 [(0, .ref (qM 0))] [] (wdM G qM sM) := by
  unfold fM_life_l51b at h
  refine z_aload_n C dX12_life_51 0 rfl ?_
  obtain ⟨y11, hy11, h⟩ := bind_o h
  refine rw_c_X12_186 C (cM_word hy11) 0 rfl dX12_life_52 (Nat.le_of_ble_eq_true rfl) (zrm rfl) ?_
  refine z_ldc2 C rw_u_1190 dX12_life_55 ?_
  refine z_lcmp_ne C dX12_life_58 dX12_life_59 69 (by decide) h (fun h => ?_) (fun h => ?_)
  · exact kM_life_l69 C O  zF h
  · refine z_aload_n C dX12_life_62 0 rfl ?_
    obtain ⟨y23, hy23, h⟩ := bind_o h
    refine rw_c_X12_264 C (cM_readLaw hy23) 0 rfl dX12_life_63 (Nat.le_of_ble_eq_true rfl) (zrm rfl) ?_
    refine z_goto C dX12_life_66 51 (by decide) ?_
    exact hK51 _   h
set_option maxHeartbeats 4000000 in
set_option maxRecDepth 100000 in
theorem kM_life_l51 {x : zX} {G : zG} {qM : Nat → Nat}  {out : Int64 × zSt} (C : zC x G RX12 cX12_life 2 (some .long) rmX12_life) (O : zO x G (some (.long out.1)) (wdM G qM out.2) 0 0)  : ∀ (n : Nat) {sM : zSt} , fM_life_l51  n sM  = some out → zW x G 0 0 51 [(0, .ref (qM 0))] [] (wdM G qM sM) := by
  intro n
  induction n with
  | zero =>
    intro sM  h
    have h : (none : Option (Int64 × zSt)) = some out := h
    cases h
  | succ n ih =>
    intro sM  h
    exact kM_life_l51b C O (K51 := fun v0 => fM_life_l51  n v0) (fun sM  h => ih h) h
set_option maxHeartbeats 4000000 in
set_option maxRecDepth 100000 in
theorem cM_life {l : Launch} {G : zG} {qM : Nat → Nat} {sM : zSt}  {out : Int64 × zSt} (h : fM_life sM  = some out) : Ct l G yX12_life cX12_life 2 (some .long) rmX12_life [.ref (qM 0)] (wdM G qM sM) (some (.long out.1)) (wdM G qM out.2) := by
  refine zMet (own := RX12) rfl (by decide) (Nat.le_of_ble_eq_true rfl) (fun x hl C O => ?_)
  show zW x G 0 0 0 [(0, .ref (qM 0))] [] _
  unfold fM_life at h
  refine z_aload_n C dX12_life_0 0 rfl ?_
  refine z_iconst C 0 dX12_life_1 (by decide) ?_
  refine rw_p_X12_107_M_M C dX12_life_2 h (fun sM1 h => ?_)
  refine z_aload_n C dX12_life_5 0 rfl ?_
  refine z_aload_n C dX12_life_6 0 rfl ?_
  refine rw_g_X12_136_M_M C dX12_life_7 ?_
  refine rw_p_X12_143_M_M C dX12_life_10 h (fun sM2 h => ?_)
  refine z_aload_n C dX12_life_13 0 rfl ?_
  refine z_iconst C 0 dX12_life_14 (by decide) ?_
  refine rw_p_X12_136_M_M C dX12_life_15 h (fun sM3 h => ?_)
  refine z_aload_n C dX12_life_18 0 rfl ?_
  refine z_iconst C 0 dX12_life_19 (by decide) ?_
  refine rw_p_X12_147_M_M C dX12_life_20 h (fun sM4 h => ?_)
  refine z_aload_n C dX12_life_23 0 rfl ?_
  refine z_iconst C 0 dX12_life_24 (by decide) ?_
  refine rw_p_X12_169_M_M C dX12_life_25 h (fun sM5 h => ?_)
  refine z_aload_n C dX12_life_28 0 rfl ?_
  refine z_iconst C 0 dX12_life_29 (by decide) ?_
  refine rw_p_X12_192_M_M C dX12_life_30 h (fun sM6 h => ?_)
  refine z_aload_n C dX12_life_33 0 rfl ?_
  refine z_iconst C 0 dX12_life_34 (by decide) ?_
  refine rw_p_X12_257_M_M C dX12_life_35 h (fun sM7 h => ?_)
  refine z_aload_n C dX12_life_38 0 rfl ?_
  refine z_iconst C 0 dX12_life_39 (by decide) ?_
  refine rw_p_X12_250_M_M C dX12_life_40 h (fun sM8 h => ?_)
  refine z_aload_n C dX12_life_43 0 rfl ?_
  obtain ⟨y9, hy9, h⟩ := bind_o h
  refine rw_c_X12_179 C (cM_next hy9) 0 rfl dX12_life_44 (Nat.le_of_ble_eq_true rfl) (zrm rfl) ?_
  refine z_aload_n C dX12_life_47 0 rfl ?_
  obtain ⟨y10, hy10, h⟩ := bind_o h
  refine rw_c_X12_264 C (cM_readLaw hy10) 0 rfl dX12_life_48 (Nat.le_of_ble_eq_true rfl) (zrm rfl) ?_
  exact kM_life_l51 C O  zF h
set_option maxHeartbeats 4000000 in
set_option maxRecDepth 100000 in
theorem cM_fault {l : Launch} {G : zG} {qM : Nat → Nat} {sM : zSt}  {out : Int32 × zSt} (h : fM_fault sM  = some out) : Ct l G yX12_fault cX12_fault 1 (some .int) rmX12_fault [.ref (qM 0)] (wdM G qM sM) (some (.int out.1)) (wdM G qM out.2) := by
  refine zMet (own := RX12) rfl (by decide) (Nat.le_of_ble_eq_true rfl) (fun x hl C O => ?_)
  show zW x G 0 0 0 [(0, .ref (qM 0))] [] _
  unfold fM_fault at h
  refine z_aload_n C dX12_fault_0 0 rfl ?_
  refine z_iconst C 0 dX12_fault_1 (by decide) ?_
  refine rw_p_X12_107_M_M C dX12_fault_2 h (fun sM1 h => ?_)
  refine z_aload_n C dX12_fault_5 0 rfl ?_
  refine rw_g_X12_270_M_M C dX12_fault_6 ?_
  replace h := Option.some.inj h
  subst h
  exact z_iret C O dX12_fault_9 rfl rfl
set_option maxHeartbeats 4000000 in
set_option maxRecDepth 100000 in
theorem kM_byLaw_b89 {x : zX} {G : zG} {qM : Nat → Nat} {sM : zSt} {out : Int32} (C : zC x G RX12 cX12_byLaw 6 (some .int) rmX12_byLaw) (O : zO x G (some (.int out)) (wdM G qM sM) 0 0) {K53 : zSt → Int32 → Int32 → Int32 → Int32 → Int32 → Option (Int32)} (hK53 : ∀  (x1 : Int32) (x2 : Int32) (x3 : Int32) (x4 : Int32) (x5 : Int32), K53 sM x1 x2 x3 x4 x5 = some out → zW x G 0 0 53 [(0, .ref (qM 0)), (1, .int x1), (2, .int x2), (3, .int x3), (4, .int x4), (5, .int x5)] [] (wdM G qM sM))  {x1 : Int32} {x2 : Int32} {x4 : Int32} {x5 : Int32} {t0 : Int32} (h : fM_byLaw_b89 K53 sM x1 x2 x4 x5 t0 = some out) : zW x G 0 0 89 [(0, .ref (qM 0)), (1, .int x1), (2, .int x2), (4, .int x4), (5, .int x5)] [.int t0] (wdM G qM sM) := by
  unfold fM_byLaw_b89 at h
  refine z_istore_n C dX12_byLaw_89 (by decide) (lvr := [(0, .ref (qM 0)), (1, .int x1), (2, .int x2), (4, .int x4), (5, .int x5)]) rfl ?_
  refine z_iload C dX12_byLaw_90 4 rfl ?_
  refine z_aload_n C dX12_byLaw_92 1 rfl ?_
  refine rw_g_X12_64_M_M C dX12_byLaw_93 ?_
  refine z_iconst C 3 dX12_byLaw_96 (by decide) ?_
  refine z_iload_n C dX12_byLaw_97 2 rfl ?_
  refine z_imul C dX12_byLaw_98 ?_
  refine z_iload C dX12_byLaw_99 5 rfl ?_
  refine z_iadd C dX12_byLaw_101 ?_
  refine rw_l_M_M_38 C dX12_byLaw_102 h (fun h => ?_)
  refine z_if_le C dX12_byLaw_103 110 (by decide) h (fun h => ?_) (fun h => ?_)
  · refine z_iconst C 0 dX12_byLaw_110 (by decide) ?_
    refine z_iadd C dX12_byLaw_111 ?_
    refine z_istoreN C dX12_byLaw_112 (by decide) (lvr := [(3, .int t0), (0, .ref (qM 0)), (1, .int x1), (2, .int x2), (5, .int x5)]) rfl h (fun x4_2 h => ?_)
    refine z_iinc C dX12_byLaw_114 5 rfl 1 (by decide) (by decide) (lvr := [(4, .int x4_2), (3, .int t0), (0, .ref (qM 0)), (1, .int x1), (2, .int x2)]) rfl h (fun x5_3 h => ?_)
    refine z_goto C dX12_byLaw_117 53 (by decide) ?_
    refine z_perm [3, 4, 5, 2, 1, 0] (lv' := [(0, .ref (qM 0)), (1, .int x1), (2, .int x2), (3, .int t0), (4, .int x4_2), (5, .int x5_3)]) rfl ?_
    exact hK53   _ _ _ _ _ h
  · refine z_iconst C 1 dX12_byLaw_106 (by decide) ?_
    refine z_goto C dX12_byLaw_107 111 (by decide) ?_
    refine z_iadd C dX12_byLaw_111 ?_
    refine z_istoreN C dX12_byLaw_112 (by decide) (lvr := [(3, .int t0), (0, .ref (qM 0)), (1, .int x1), (2, .int x2), (5, .int x5)]) rfl h (fun x4_4 h => ?_)
    refine z_iinc C dX12_byLaw_114 5 rfl 1 (by decide) (by decide) (lvr := [(4, .int x4_4), (3, .int t0), (0, .ref (qM 0)), (1, .int x1), (2, .int x2)]) rfl h (fun x5_5 h => ?_)
    refine z_goto C dX12_byLaw_117 53 (by decide) ?_
    refine z_perm [3, 4, 5, 2, 1, 0] (lv' := [(0, .ref (qM 0)), (1, .int x1), (2, .int x2), (3, .int t0), (4, .int x4_4), (5, .int x5_5)]) rfl ?_
    exact hK53   _ _ _ _ _ h
set_option maxHeartbeats 4000000 in
set_option maxRecDepth 100000 in
theorem kM_byLaw_l53b {x : zX} {G : zG} {qM : Nat → Nat} {sM : zSt} {out : Int32} (C : zC x G RX12 cX12_byLaw 6 (some .int) rmX12_byLaw) (O : zO x G (some (.int out)) (wdM G qM sM) 0 0) {K53 : zSt → Int32 → Int32 → Int32 → Int32 → Int32 → Option (Int32)} (hK53 : ∀  (x1 : Int32) (x2 : Int32) (x3 : Int32) (x4 : Int32) (x5 : Int32), K53 sM x1 x2 x3 x4 x5 = some out → zW x G 0 0 53 [(0, .ref (qM 0)), (1, .int x1), (2, .int x2), (3, .int x3), (4, .int x4), (5, .int x5)] [] (wdM G qM sM))  {x1 : Int32} {x2 : Int32} {x3 : Int32} {x4 : Int32} {x5 : Int32} (h : fM_byLaw_l53b K53 sM x1 x2 x3 x4 x5 = some out) : zW x G 0 0 53 [(0, .ref (qM 0)), (1, .int x1), (2, .int x2), (3, .int x3), (4, .int x4), (5, .int x5)] [] (wdM G qM sM) := by
  unfold fM_byLaw_l53b at h
  refine z_iload C dX12_byLaw_53 5 rfl ?_
  refine z_iconst C 3 dX12_byLaw_55 (by decide) ?_
  refine z_icmp_ge C dX12_byLaw_56 120 (by decide) h (fun h => ?_) (fun h => ?_)
  · refine z_aload_n C dX12_byLaw_120 0 rfl ?_
    refine rw_g_X12_19_M_M C dX12_byLaw_121 ?_
    refine z_iload_n C dX12_byLaw_124 2 rfl ?_
    refine z_iconst C 4 dX12_byLaw_125 (by decide) ?_
    refine z_iadd C dX12_byLaw_126 ?_
    refine rw_l_M_M_9 C dX12_byLaw_127 h (fun h => ?_)
    refine z_iconst C 1 dX12_byLaw_128 (by decide) ?_
    refine z_icmp_ne C dX12_byLaw_129 142 (by decide) h (fun h => ?_) (fun h => ?_)
    · refine z_iload_n C dX12_byLaw_142 3 rfl ?_
      replace h := Option.some.inj h
      subst h
      exact z_iret C O dX12_byLaw_143 rfl rfl
    · refine z_iload C dX12_byLaw_132 4 rfl ?_
      refine z_iconst C 1 dX12_byLaw_134 (by decide) ?_
      refine z_icmp_le C dX12_byLaw_135 142 (by decide) h (fun h => ?_) (fun h => ?_)
      · refine z_iload_n C dX12_byLaw_142 3 rfl ?_
        replace h := Option.some.inj h
        subst h
        exact z_iret C O dX12_byLaw_143 rfl rfl
      · refine z_iconst C 2 dX12_byLaw_138 (by decide) ?_
        refine z_goto C dX12_byLaw_139 143 (by decide) ?_
        replace h := Option.some.inj h
        subst h
        exact z_iret C O dX12_byLaw_143 rfl rfl
  · refine z_aload_n C dX12_byLaw_59 0 rfl ?_
    refine rw_g_X12_64_M_M C dX12_byLaw_60 ?_
    refine z_iconst C 3 dX12_byLaw_63 (by decide) ?_
    refine z_iload_n C dX12_byLaw_64 1 rfl ?_
    refine z_imul C dX12_byLaw_65 ?_
    refine z_iload C dX12_byLaw_66 5 rfl ?_
    refine z_iadd C dX12_byLaw_68 ?_
    refine rw_l_M_M_38 C dX12_byLaw_69 h (fun h => ?_)
    refine z_aload_n C dX12_byLaw_70 0 rfl ?_
    refine rw_g_X12_64_M_M C dX12_byLaw_71 ?_
    refine z_iconst C 3 dX12_byLaw_74 (by decide) ?_
    refine z_iload_n C dX12_byLaw_75 1 rfl ?_
    refine z_imul C dX12_byLaw_76 ?_
    refine z_iload_n C dX12_byLaw_77 3 rfl ?_
    refine z_iadd C dX12_byLaw_78 ?_
    refine rw_l_M_M_38 C dX12_byLaw_79 h (fun h => ?_)
    refine z_icmp_le C dX12_byLaw_80 88 (by decide) h (fun h => ?_) (fun h => ?_)
    · refine z_iload_n C dX12_byLaw_88 3 rfl ?_
      refine z_perm [0, 1, 2, 4, 5] (lv' := [(0, .ref (qM 0)), (1, .int x1), (2, .int x2), (4, .int x4), (5, .int x5)]) rfl ?_
      exact kM_byLaw_b89 C O hK53 h
    · refine z_iload C dX12_byLaw_83 5 rfl ?_
      refine z_goto C dX12_byLaw_85 89 (by decide) ?_
      refine z_perm [0, 1, 2, 4, 5] (lv' := [(0, .ref (qM 0)), (1, .int x1), (2, .int x2), (4, .int x4), (5, .int x5)]) rfl ?_
      exact kM_byLaw_b89 C O hK53 h
set_option maxHeartbeats 4000000 in
set_option maxRecDepth 100000 in
theorem kM_byLaw_l53 {x : zX} {G : zG} {qM : Nat → Nat} {sM : zSt} {out : Int32} (C : zC x G RX12 cX12_byLaw 6 (some .int) rmX12_byLaw) (O : zO x G (some (.int out)) (wdM G qM sM) 0 0)  : ∀ (n : Nat)  {x1 : Int32} {x2 : Int32} {x3 : Int32} {x4 : Int32} {x5 : Int32}, fM_byLaw_l53  n sM x1 x2 x3 x4 x5 = some out → zW x G 0 0 53 [(0, .ref (qM 0)), (1, .int x1), (2, .int x2), (3, .int x3), (4, .int x4), (5, .int x5)] [] (wdM G qM sM) := by
  intro n
  induction n with
  | zero =>
    intro  x1 x2 x3 x4 x5 h
    have h : (none : Option (Int32)) = some out := h
    cases h
  | succ n ih =>
    intro  x1 x2 x3 x4 x5 h
    exact kM_byLaw_l53b C O (K53 := fun v0 v1 v2 v3 v4 v5 => fM_byLaw_l53  n v0 v1 v2 v3 v4 v5) (fun  x1 x2 x3 x4 x5 h => ih h) h
set_option maxHeartbeats 4000000 in
set_option maxRecDepth 100000 in
theorem cM_byLaw {l : Launch} {G : zG} {qM : Nat → Nat} {sM : zSt} {a0 : Int32} {out : Int32} (h : fM_byLaw sM a0 = some out) : Ct l G yX12_byLaw cX12_byLaw 6 (some .int) rmX12_byLaw [.ref (qM 0), .int a0] (wdM G qM sM) (some (.int out)) (wdM G qM sM) := by
  refine zMet (own := RX12) rfl (by decide) (Nat.le_of_ble_eq_true rfl) (fun x hl C O => ?_)
  show zW x G 0 0 0 [(0, .ref (qM 0)), (1, .int a0)] [] _
  unfold fM_byLaw at h
  refine z_bipush C 8 dX12_byLaw_0 (by decide) ?_
  refine z_aload_n C dX12_byLaw_2 0 rfl ?_
  refine rw_g_X12_288_M_M C dX12_byLaw_3 ?_
  refine z_imul C dX12_byLaw_6 ?_
  refine z_istore_nN C dX12_byLaw_7 (by decide) (lvr := [(0, .ref (qM 0)), (1, .int a0)]) rfl h (fun x2_1 h => ?_)
  refine z_aload_n C dX12_byLaw_8 1 rfl ?_
  refine rw_g_X12_61_M_M C dX12_byLaw_9 ?_
  refine z_iload_n C dX12_byLaw_12 2 rfl ?_
  refine rw_l_M_M_37 C dX12_byLaw_13 h (fun h => ?_)
  refine z_iconst C 4 dX12_byLaw_14 (by decide) ?_
  refine z_icmp_ge C dX12_byLaw_15 45 (by decide) h (fun h => ?_) (fun h => ?_)
  · refine z_iconst C 0 dX12_byLaw_45 (by decide) ?_
    refine z_istore_n C dX12_byLaw_46 (by decide) (lvr := [(2, .int x2_1), (0, .ref (qM 0)), (1, .int a0)]) rfl ?_
    refine z_iconst C 0 dX12_byLaw_47 (by decide) ?_
    refine z_istore C dX12_byLaw_48 (by decide) (lvr := [(3, .int 0), (2, .int x2_1), (0, .ref (qM 0)), (1, .int a0)]) rfl ?_
    refine z_iconst C 0 dX12_byLaw_50 (by decide) ?_
    refine z_istore C dX12_byLaw_51 (by decide) (lvr := [(4, .int 0), (3, .int 0), (2, .int x2_1), (0, .ref (qM 0)), (1, .int a0)]) rfl ?_
    refine z_perm [4, 5, 3, 2, 1, 0] (lv' := [(0, .ref (qM 0)), (1, .int a0), (2, .int x2_1), (3, .int 0), (4, .int 0), (5, .int 0)]) rfl ?_
    exact kM_byLaw_l53 C O  zF h
  · refine z_aload_n C dX12_byLaw_18 1 rfl ?_
    refine rw_g_X12_19_M_M C dX12_byLaw_19 ?_
    refine z_iload_n C dX12_byLaw_22 0 rfl ?_
    refine z_aload_n C dX12_byLaw_23 1 rfl ?_
    refine rw_g_X12_61_M_M C dX12_byLaw_24 ?_
    refine z_iload_n C dX12_byLaw_27 2 rfl ?_
    refine rw_l_M_M_37 C dX12_byLaw_28 h (fun h => ?_)
    refine z_iadd C dX12_byLaw_29 ?_
    refine rw_l_M_M_9 C dX12_byLaw_30 h (fun h => ?_)
    refine z_if_ne C dX12_byLaw_31 43 (by decide) h (fun h => ?_) (fun h => ?_)
    · refine z_iconst C 2 dX12_byLaw_43 (by decide) ?_
      replace h := Option.some.inj h
      subst h
      exact z_iret C O dX12_byLaw_44 rfl rfl
    · refine z_aload_n C dX12_byLaw_34 1 rfl ?_
      refine rw_g_X12_58_M_M C dX12_byLaw_35 ?_
      refine z_iload_n C dX12_byLaw_38 2 rfl ?_
      refine rw_l_M_M_36 C dX12_byLaw_39 h (fun h => ?_)
      refine z_goto C dX12_byLaw_40 44 (by decide) ?_
      replace h := Option.some.inj h
      subst h
      exact z_iret C O dX12_byLaw_44 rfl rfl
set_option maxHeartbeats 4000000 in
set_option maxRecDepth 100000 in
theorem kM_fall_b68 {x : zX} {G : zG} {qM : Nat → Nat}  {out : zSt} (C : zC x G RX12 cX12_fall 5 none rmX12_fall) (O : zO x G none (wdM G qM out) 0 0)  {sM : zSt} {x1 : Int32} {x2 : Int32} {t0 : Int32} {t1 : Int32} (h : fM_fall_b68  sM x1 x2 t0 t1 = some out) : zW x G 0 0 68 [(0, .ref (qM 0)), (1, .int x1), (2, .int x2)] [.int t0, .int t1, .ref (qM 32)] (wdM G qM sM) := by
  unfold fM_fall_b68 at h
  refine rw_s_M_M_31 C dX12_fall_68 h (fun sM3 h => ?_)
  refine z_aload_n C dX12_fall_69 0 rfl ?_
  refine rw_g_X12_49_M_M C dX12_fall_70 ?_
  refine z_iload_n C dX12_fall_73 1 rfl ?_
  refine z_iload_n C dX12_fall_74 2 rfl ?_
  refine rw_s_M_M_33 C dX12_fall_75 h (fun sM4 h => ?_)
  replace h := Option.some.inj h
  subst h
  exact z_vret C O dX12_fall_76 rfl rfl
set_option maxHeartbeats 4000000 in
set_option maxRecDepth 100000 in
theorem kM_fall_b52 {x : zX} {G : zG} {qM : Nat → Nat}  {out : zSt} (C : zC x G RX12 cX12_fall 5 none rmX12_fall) (O : zO x G none (wdM G qM out) 0 0)  {sM : zSt} {x1 : Int32} {x2 : Int32} {x3 : Int32} {x4 : Int32} {t0 : Int32} {t1 : Int32} (h : fM_fall_b52  sM x1 x2 x3 x4 t0 t1 = some out) : zW x G 0 0 52 [(0, .ref (qM 0)), (1, .int x1), (2, .int x2), (3, .int x3), (4, .int x4)] [.int t0, .int t1, .ref (qM 30)] (wdM G qM sM) := by
  unfold fM_fall_b52 at h
  refine rw_s_M_M_29 C dX12_fall_52 h (fun sM2 h => ?_)
  refine z_aload_n C dX12_fall_53 0 rfl ?_
  refine rw_g_X12_43_M_M C dX12_fall_54 ?_
  refine z_iload_n C dX12_fall_57 1 rfl ?_
  refine z_iload C dX12_fall_58 4 rfl ?_
  refine z_if_eq C dX12_fall_60 67 (by decide) h (fun h => ?_) (fun h => ?_)
  · refine z_iload_n C dX12_fall_67 3 rfl ?_
    refine z_perm [0, 1, 2] (lv' := [(0, .ref (qM 0)), (1, .int x1), (2, .int x2)]) rfl ?_
    exact kM_fall_b68 C O  h
  · refine z_iconst C 1 dX12_fall_63 (by decide) ?_
    refine z_goto C dX12_fall_64 68 (by decide) ?_
    refine z_perm [0, 1, 2] (lv' := [(0, .ref (qM 0)), (1, .int x1), (2, .int x2)]) rfl ?_
    exact kM_fall_b68 C O  h
set_option maxHeartbeats 4000000 in
set_option maxRecDepth 100000 in
theorem kM_fall_b21 {x : zX} {G : zG} {qM : Nat → Nat}  {out : zSt} (C : zC x G RX12 cX12_fall 5 none rmX12_fall) (O : zO x G none (wdM G qM out) 0 0)  {sM : zSt} {x1 : Int32} {x2 : Int32} {x3 : Int32} {t0 : Int32} (h : fM_fall_b21  sM x1 x2 x3 t0 = some out) : zW x G 0 0 21 [(0, .ref (qM 0)), (1, .int x1), (2, .int x2), (3, .int x3)] [.int t0] (wdM G qM sM) := by
  unfold fM_fall_b21 at h
  refine z_istore C dX12_fall_21 (by decide) (lvr := [(0, .ref (qM 0)), (1, .int x1), (2, .int x2), (3, .int x3)]) rfl ?_
  refine z_aload_n C dX12_fall_23 1 rfl ?_
  refine rw_g_X12_37_M_M C dX12_fall_24 ?_
  refine z_iload_n C dX12_fall_27 2 rfl ?_
  refine z_iload C dX12_fall_28 0 rfl ?_
  refine z_if_eq C dX12_fall_30 47 (by decide) h (fun h => ?_) (fun h => ?_)
  · refine z_aload_n C dX12_fall_47 1 rfl ?_
    refine z_iload_n C dX12_fall_48 2 rfl ?_
    obtain ⟨y1, hy1, h⟩ := bind_o h
    refine rw_c_X12_291 C (cM_byLaw hy1) 0 rfl dX12_fall_49 (Nat.le_of_ble_eq_true rfl) (zrm rfl) ?_
    refine z_perm [1, 2, 3, 4, 0] (lv' := [(0, .ref (qM 0)), (1, .int x1), (2, .int x2), (3, .int x3), (4, .int t0)]) rfl ?_
    exact kM_fall_b52 C O  h
  · refine z_aload_n C dX12_fall_33 1 rfl ?_
    refine rw_g_X12_34_M_M C dX12_fall_34 ?_
    refine z_aload_n C dX12_fall_37 1 rfl ?_
    refine rw_g_X12_61_M_M C dX12_fall_38 ?_
    refine z_iload_n C dX12_fall_41 2 rfl ?_
    refine rw_l_M_M_37 C dX12_fall_42 h (fun h => ?_)
    refine rw_l_M_M_27 C dX12_fall_43 h (fun h => ?_)
    refine z_goto C dX12_fall_44 52 (by decide) ?_
    refine z_perm [1, 2, 3, 4, 0] (lv' := [(0, .ref (qM 0)), (1, .int x1), (2, .int x2), (3, .int x3), (4, .int t0)]) rfl ?_
    exact kM_fall_b52 C O  h
set_option maxHeartbeats 4000000 in
set_option maxRecDepth 100000 in
theorem cM_fall {l : Launch} {G : zG} {qM : Nat → Nat} {sM : zSt} {a0 : Int32} {a1 : Int32} {a2 : Int32} {out : zSt} (h : fM_fall sM a0 a1 a2 = some out) : Ct l G yX12_fall cX12_fall 5 none rmX12_fall [.ref (qM 0), .int a0, .int a1, .int a2] (wdM G qM sM) none (wdM G qM out) := by
  refine zMet (own := RX12) rfl (by decide) (Nat.le_of_ble_eq_true rfl) (fun x hl C O => ?_)
  show zW x G 0 0 0 [(0, .ref (qM 0)), (1, .int a0), (2, .int a1), (3, .int a2)] [] _
  unfold fM_fall at h
  refine z_aload_n C dX12_fall_0 0 rfl ?_
  refine rw_g_X12_34_M_M C dX12_fall_1 ?_
  refine z_aload_n C dX12_fall_4 0 rfl ?_
  refine rw_g_X12_61_M_M C dX12_fall_5 ?_
  refine z_iload_n C dX12_fall_8 1 rfl ?_
  refine rw_l_M_M_37 C dX12_fall_9 h (fun h => ?_)
  refine rw_l_M_M_27 C dX12_fall_10 h (fun h => ?_)
  refine z_ldc C rw_u_1175 dX12_fall_11 ?_
  refine z_icmp_eq C dX12_fall_13 20 (by decide) h (fun h => ?_) (fun h => ?_)
  · refine z_iconst C 0 dX12_fall_20 (by decide) ?_
    exact kM_fall_b21 C O  h
  · refine z_iconst C 1 dX12_fall_16 (by decide) ?_
    refine z_goto C dX12_fall_17 21 (by decide) ?_
    exact kM_fall_b21 C O  h
set_option maxHeartbeats 4000000 in
set_option maxRecDepth 100000 in
theorem cM_putIn {l : Launch} {G : zG} {qM : Nat → Nat} {sM : zSt} {a0 : Int32} {a1 : Int32} {a2 : Int32} {out : zSt} (h : fM_putIn sM a0 a1 a2 = some out) : Ct l G yX12_putIn cX12_putIn 4 none rmX12_putIn [.ref (qM 0), .int a0, .int a1, .int a2] (wdM G qM sM) none (wdM G qM out) := by
  refine zMet (own := RX12) rfl (by decide) (Nat.le_of_ble_eq_true rfl) (fun x hl C O => ?_)
  show zW x G 0 0 0 [(0, .ref (qM 0)), (1, .int a0), (2, .int a1), (3, .int a2)] [] _
  unfold fM_putIn at h
  refine z_aload_n C dX12_putIn_0 0 rfl ?_
  refine rw_g_X12_70_M_M C dX12_putIn_1 ?_
  refine z_aload_n C dX12_putIn_4 0 rfl ?_
  refine rw_g_X12_294_M_M C dX12_putIn_5 ?_
  refine z_iload_n C dX12_putIn_8 1 rfl ?_
  refine rw_s_M_M_41 C dX12_putIn_9 h (fun sM1 h => ?_)
  refine z_aload_n C dX12_putIn_10 0 rfl ?_
  refine rw_g_X12_73_M_M C dX12_putIn_11 ?_
  refine z_aload_n C dX12_putIn_14 0 rfl ?_
  refine rw_g_X12_294_M_M C dX12_putIn_15 ?_
  refine z_iload_n C dX12_putIn_18 2 rfl ?_
  refine rw_s_M_M_42 C dX12_putIn_19 h (fun sM2 h => ?_)
  refine z_aload_n C dX12_putIn_20 0 rfl ?_
  refine rw_g_X12_76_M_M C dX12_putIn_21 ?_
  refine z_aload_n C dX12_putIn_24 0 rfl ?_
  refine rw_g_X12_294_M_M C dX12_putIn_25 ?_
  refine z_iload_n C dX12_putIn_28 3 rfl ?_
  refine rw_s_M_M_43 C dX12_putIn_29 h (fun sM3 h => ?_)
  refine z_aload_n C dX12_putIn_30 0 rfl ?_
  refine rw_g_X12_79_M_M C dX12_putIn_31 ?_
  refine z_aload_n C dX12_putIn_34 0 rfl ?_
  refine rw_g_X12_294_M_M C dX12_putIn_35 ?_
  refine z_aload_n C dX12_putIn_38 0 rfl ?_
  refine rw_g_X12_52_M_M C dX12_putIn_39 ?_
  refine z_iload_n C dX12_putIn_42 1 rfl ?_
  refine rw_l_M_M_34 C dX12_putIn_43 h (fun h => ?_)
  refine rw_s_M_M_44 C dX12_putIn_44 h (fun sM4 h => ?_)
  refine z_aload_n C dX12_putIn_45 0 rfl ?_
  refine z_dup C dX12_putIn_46 rfl ?_
  refine rw_g_X12_294_M_M C dX12_putIn_47 ?_
  refine z_iconst C 1 dX12_putIn_50 (by decide) ?_
  refine z_iadd C dX12_putIn_51 ?_
  refine rw_p_X12_294_M_M C dX12_putIn_52 h (fun sM5 h => ?_)
  replace h := Option.some.inj h
  subst h
  exact z_vret C O dX12_putIn_55 rfl rfl
set_option maxHeartbeats 4000000 in
set_option maxRecDepth 100000 in
theorem kM_bring_l198b {x : zX} {G : zG} {qM : Nat → Nat}  {out : zSt} (C : zC x G RX12 cX12_bring 7 none rmX12_bring) (O : zO x G none (wdM G qM out) 0 0) {K198 : zSt → Int32 → Int32 → Int32 → Option (zSt)} (hK198 : ∀ (sM : zSt) (x1 : Int32) (x3 : Int32) (x6 : Int32), K198 sM x1 x3 x6 = some out → zW x G 0 0 198 [(0, .ref (qM 0)), (1, .int x1), (3, .int x3), (6, .int x6)] [] (wdM G qM sM)) {sM : zSt} {x1 : Int32} {x3 : Int32} {x6 : Int32} (h : fM_bring_l198b K198 sM x1 x3 x6 = some out) : zW x G 0 0 198 [(0, .ref (qM 0)), (1, .int x1), (3, .int x3), (6, .int x6)] [] (wdM G qM sM) := by
  unfold fM_bring_l198b at h
  refine z_iload C dX12_bring_198 3 rfl ?_
  refine z_iconst C 3 dX12_bring_200 (by decide) ?_
  refine z_icmp_ge C dX12_bring_201 242 (by decide) h (fun h => ?_) (fun h => ?_)
  · refine z_aload_n C dX12_bring_242 0 rfl ?_
    refine z_iload_n C dX12_bring_243 2 rfl ?_
    refine z_iload_n C dX12_bring_244 1 rfl ?_
    refine z_iconst C 0 dX12_bring_245 (by decide) ?_
    obtain ⟨y8, hy8, h⟩ := bind_o h
    refine rw_c_X12_304 C (cM_fall hy8) 0 rfl dX12_bring_246 (Nat.le_of_ble_eq_true rfl) (zrm rfl) ?_
    refine z_aload_n C dX12_bring_249 0 rfl ?_
    refine rw_g_X12_40_M_M C dX12_bring_250 ?_
    refine z_iload_n C dX12_bring_253 2 rfl ?_
    refine z_aload_n C dX12_bring_254 0 rfl ?_
    refine rw_g_X12_37_M_M C dX12_bring_255 ?_
    refine z_iload_n C dX12_bring_258 2 rfl ?_
    refine rw_l_M_M_29 C dX12_bring_259 h (fun h => ?_)
    refine rw_s_M_M_30 C dX12_bring_260 h (fun sM9 h => ?_)
    replace h := Option.some.inj h
    subst h
    exact z_vret C O dX12_bring_261 rfl rfl
  · refine z_aload_n C dX12_bring_204 0 rfl ?_
    refine rw_g_X12_64_M_M C dX12_bring_205 ?_
    refine z_iconst C 3 dX12_bring_208 (by decide) ?_
    refine z_iload_n C dX12_bring_209 2 rfl ?_
    refine z_imul C dX12_bring_210 ?_
    refine z_iload C dX12_bring_211 3 rfl ?_
    refine z_iadd C dX12_bring_213 ?_
    refine rw_l_M_M_38 C dX12_bring_214 h (fun h => ?_)
    refine z_if_le C dX12_bring_215 236 (by decide) h (fun h => ?_) (fun h => ?_)
    · refine z_iinc C dX12_bring_236 3 rfl 1 (by decide) (by decide) (lvr := [(0, .ref (qM 0)), (1, .int x1), (3, .int x3)]) rfl h (fun x6_10 h => ?_)
      refine z_goto C dX12_bring_239 198 (by decide) ?_
      refine z_perm [1, 2, 3, 0] (lv' := [(0, .ref (qM 0)), (1, .int x1), (3, .int x3), (6, .int x6_10)]) rfl ?_
      exact hK198 _  _ _ _ h
    · refine z_aload_n C dX12_bring_218 0 rfl ?_
      refine z_iload_n C dX12_bring_219 2 rfl ?_
      refine z_iload C dX12_bring_220 3 rfl ?_
      refine z_aload_n C dX12_bring_222 0 rfl ?_
      refine rw_g_X12_64_M_M C dX12_bring_223 ?_
      refine z_iconst C 3 dX12_bring_226 (by decide) ?_
      refine z_iload_n C dX12_bring_227 2 rfl ?_
      refine z_imul C dX12_bring_228 ?_
      refine z_iload C dX12_bring_229 3 rfl ?_
      refine z_iadd C dX12_bring_231 ?_
      refine rw_l_M_M_38 C dX12_bring_232 h (fun h => ?_)
      obtain ⟨y11, hy11, h⟩ := bind_o h
      refine rw_c_X12_300 C (cM_putIn hy11) 0 rfl dX12_bring_233 (Nat.le_of_ble_eq_true rfl) (zrm rfl) ?_
      refine z_iinc C dX12_bring_236 3 rfl 1 (by decide) (by decide) (lvr := [(0, .ref (qM 0)), (1, .int x1), (3, .int x3)]) rfl h (fun x6_12 h => ?_)
      refine z_goto C dX12_bring_239 198 (by decide) ?_
      refine z_perm [1, 2, 3, 0] (lv' := [(0, .ref (qM 0)), (1, .int x1), (3, .int x3), (6, .int x6_12)]) rfl ?_
      exact hK198 _  _ _ _ h
set_option maxHeartbeats 4000000 in
set_option maxRecDepth 100000 in
theorem kM_bring_l198 {x : zX} {G : zG} {qM : Nat → Nat}  {out : zSt} (C : zC x G RX12 cX12_bring 7 none rmX12_bring) (O : zO x G none (wdM G qM out) 0 0)  : ∀ (n : Nat) {sM : zSt} {x1 : Int32} {x3 : Int32} {x6 : Int32}, fM_bring_l198  n sM x1 x3 x6 = some out → zW x G 0 0 198 [(0, .ref (qM 0)), (1, .int x1), (3, .int x3), (6, .int x6)] [] (wdM G qM sM) := by
  intro n
  induction n with
  | zero =>
    intro sM x1 x3 x6 h
    have h : (none : Option (zSt)) = some out := h
    cases h
  | succ n ih =>
    intro sM x1 x3 x6 h
    exact kM_bring_l198b C O (K198 := fun v0 v1 v2 v3 => fM_bring_l198  n v0 v1 v2 v3) (fun sM x1 x3 x6 h => ih h) h
set_option maxHeartbeats 4000000 in
set_option maxRecDepth 100000 in
theorem kM_bring_b187 {x : zX} {G : zG} {qM : Nat → Nat}  {out : zSt} (C : zC x G RX12 cX12_bring 7 none rmX12_bring) (O : zO x G none (wdM G qM out) 0 0)  {sM : zSt} {x1 : Int32} {x3 : Int32} {t0 : Int32} {t1 : Int32} (h : fM_bring_b187  sM x1 x3 t0 t1 = some out) : zW x G 0 0 187 [(0, .ref (qM 0)), (1, .int x1), (3, .int x3)] [.int t0, .int t1, .ref (qM 35)] (wdM G qM sM) := by
  unfold fM_bring_b187 at h
  refine rw_s_M_M_34 C dX12_bring_187 h (fun sM6 h => ?_)
  refine z_aload_n C dX12_bring_188 0 rfl ?_
  refine rw_g_X12_46_M_M C dX12_bring_189 ?_
  refine z_iload_n C dX12_bring_192 2 rfl ?_
  refine z_iload_n C dX12_bring_193 1 rfl ?_
  refine rw_s_M_M_32 C dX12_bring_194 h (fun sM7 h => ?_)
  refine z_iconst C 0 dX12_bring_195 (by decide) ?_
  refine z_istore C dX12_bring_196 (by decide) (lvr := [(0, .ref (qM 0)), (1, .int x1), (3, .int x3)]) rfl ?_
  refine z_perm [1, 2, 3, 0] (lv' := [(0, .ref (qM 0)), (1, .int x1), (3, .int x3), (6, .int 0)]) rfl ?_
  exact kM_bring_l198 C O  zF h
set_option maxHeartbeats 4000000 in
set_option maxRecDepth 100000 in
theorem kM_bring_b165 {x : zX} {G : zG} {qM : Nat → Nat}  {out : zSt} (C : zC x G RX12 cX12_bring 7 none rmX12_bring) (O : zO x G none (wdM G qM out) 0 0)  {sM : zSt} {x1 : Int32} {x3 : Int32} {x4 : Int32} {x5 : Int32} {t0 : Int32} {t1 : Int32} (h : fM_bring_b165  sM x1 x3 x4 x5 t0 t1 = some out) : zW x G 0 0 165 [(0, .ref (qM 0)), (1, .int x1), (3, .int x3), (4, .int x4), (5, .int x5)] [.int t0, .int t1, .ref (qM 36)] (wdM G qM sM) := by
  unfold fM_bring_b165 at h
  refine rw_s_M_M_35 C dX12_bring_165 h (fun sM5 h => ?_)
  refine z_aload_n C dX12_bring_166 0 rfl ?_
  refine rw_g_X12_52_M_M C dX12_bring_167 ?_
  refine z_iload_n C dX12_bring_170 2 rfl ?_
  refine z_iload C dX12_bring_171 3 rfl ?_
  refine z_if_eq C dX12_bring_173 181 (by decide) h (fun h => ?_) (fun h => ?_)
  · refine z_aload_n C dX12_bring_181 0 rfl ?_
    refine rw_g_X12_55_M_M C dX12_bring_182 ?_
    refine z_iload_n C dX12_bring_185 2 rfl ?_
    refine rw_l_M_M_35 C dX12_bring_186 h (fun h => ?_)
    refine z_perm [0, 1, 2] (lv' := [(0, .ref (qM 0)), (1, .int x1), (3, .int x3)]) rfl ?_
    exact kM_bring_b187 C O  h
  · refine z_iload C dX12_bring_176 4 rfl ?_
    refine z_goto C dX12_bring_178 187 (by decide) ?_
    refine z_perm [0, 1, 2] (lv' := [(0, .ref (qM 0)), (1, .int x1), (3, .int x3)]) rfl ?_
    exact kM_bring_b187 C O  h
set_option maxHeartbeats 4000000 in
set_option maxRecDepth 100000 in
theorem kM_bring_b142 {x : zX} {G : zG} {qM : Nat → Nat}  {out : zSt} (C : zC x G RX12 cX12_bring 7 none rmX12_bring) (O : zO x G none (wdM G qM out) 0 0)  {sM : zSt} {x1 : Int32} {x2 : Int32} {x3 : Int32} {x4 : Int32} {x5 : Int32} {t0 : Int32} {t1 : Int32} (h : fM_bring_b142  sM x1 x2 x3 x4 x5 t0 t1 = some out) : zW x G 0 0 142 [(0, .ref (qM 0)), (1, .int x1), (2, .int x2), (3, .int x3), (4, .int x4), (5, .int x5)] [.int t0, .int t1, .ref (qM 37)] (wdM G qM sM) := by
  unfold fM_bring_b142 at h
  refine rw_s_M_M_36 C dX12_bring_142 h (fun sM4 h => ?_)
  refine z_aload_n C dX12_bring_143 0 rfl ?_
  refine rw_g_X12_55_M_M C dX12_bring_144 ?_
  refine z_iload_n C dX12_bring_147 3 rfl ?_
  refine z_iload C dX12_bring_148 4 rfl ?_
  refine z_if_eq C dX12_bring_150 157 (by decide) h (fun h => ?_) (fun h => ?_)
  · refine z_aload_n C dX12_bring_157 0 rfl ?_
    refine rw_g_X12_22_M_M C dX12_bring_158 ?_
    refine z_iload_n C dX12_bring_161 2 rfl ?_
    refine z_iconst C 4 dX12_bring_162 (by decide) ?_
    refine z_iadd C dX12_bring_163 ?_
    refine rw_l_M_M_10 C dX12_bring_164 h (fun h => ?_)
    refine z_perm [0, 1, 3, 4, 5] (lv' := [(0, .ref (qM 0)), (1, .int x1), (3, .int x3), (4, .int x4), (5, .int x5)]) rfl ?_
    exact kM_bring_b165 C O  h
  · refine z_iconst C 0 dX12_bring_153 (by decide) ?_
    refine z_goto C dX12_bring_154 165 (by decide) ?_
    refine z_perm [0, 1, 3, 4, 5] (lv' := [(0, .ref (qM 0)), (1, .int x1), (3, .int x3), (4, .int x4), (5, .int x5)]) rfl ?_
    exact kM_bring_b165 C O  h
set_option maxHeartbeats 4000000 in
set_option maxRecDepth 100000 in
theorem kM_bring_b119 {x : zX} {G : zG} {qM : Nat → Nat}  {out : zSt} (C : zC x G RX12 cX12_bring 7 none rmX12_bring) (O : zO x G none (wdM G qM out) 0 0)  {sM : zSt} {x1 : Int32} {x2 : Int32} {x3 : Int32} {x4 : Int32} {x5 : Int32} {t0 : Int32} {t1 : Int32} (h : fM_bring_b119  sM x1 x2 x3 x4 x5 t0 t1 = some out) : zW x G 0 0 119 [(0, .ref (qM 0)), (1, .int x1), (2, .int x2), (3, .int x3), (4, .int x4), (5, .int x5)] [.int t0, .int t1, .ref (qM 38)] (wdM G qM sM) := by
  unfold fM_bring_b119 at h
  refine rw_s_M_M_37 C dX12_bring_119 h (fun sM3 h => ?_)
  refine z_aload_n C dX12_bring_120 0 rfl ?_
  refine rw_g_X12_58_M_M C dX12_bring_121 ?_
  refine z_iload_n C dX12_bring_124 3 rfl ?_
  refine z_iload C dX12_bring_125 4 rfl ?_
  refine z_if_eq C dX12_bring_127 134 (by decide) h (fun h => ?_) (fun h => ?_)
  · refine z_aload_n C dX12_bring_134 0 rfl ?_
    refine rw_g_X12_22_M_M C dX12_bring_135 ?_
    refine z_iload_n C dX12_bring_138 2 rfl ?_
    refine z_iconst C 3 dX12_bring_139 (by decide) ?_
    refine z_iadd C dX12_bring_140 ?_
    refine rw_l_M_M_10 C dX12_bring_141 h (fun h => ?_)
    exact kM_bring_b142 C O  h
  · refine z_iconst C 0 dX12_bring_130 (by decide) ?_
    refine z_goto C dX12_bring_131 142 (by decide) ?_
    exact kM_bring_b142 C O  h
set_option maxHeartbeats 4000000 in
set_option maxRecDepth 100000 in
theorem kM_bring_b74 {x : zX} {G : zG} {qM : Nat → Nat}  {out : zSt} (C : zC x G RX12 cX12_bring 7 none rmX12_bring) (O : zO x G none (wdM G qM out) 0 0) {K38 : zSt → Int32 → Int32 → Int32 → Int32 → Int32 → Int32 → Option (zSt)} (hK38 : ∀ (sM : zSt) (x1 : Int32) (x2 : Int32) (x3 : Int32) (x4 : Int32) (x5 : Int32) (x6 : Int32), K38 sM x1 x2 x3 x4 x5 x6 = some out → zW x G 0 0 38 [(0, .ref (qM 0)), (1, .int x1), (2, .int x2), (3, .int x3), (4, .int x4), (5, .int x5), (6, .int x6)] [] (wdM G qM sM)) {sM : zSt} {x1 : Int32} {x2 : Int32} {x3 : Int32} {x4 : Int32} {x5 : Int32} {x6 : Int32} {t0 : Int32} {t1 : Int32} (h : fM_bring_b74 K38 sM x1 x2 x3 x4 x5 x6 t0 t1 = some out) : zW x G 0 0 74 [(0, .ref (qM 0)), (1, .int x1), (2, .int x2), (3, .int x3), (4, .int x4), (5, .int x5), (6, .int x6)] [.int t0, .int t1, .ref (qM 39)] (wdM G qM sM) := by
  unfold fM_bring_b74 at h
  refine rw_s_M_M_38 C dX12_bring_74 h (fun sM13 h => ?_)
  refine z_iload C dX12_bring_75 5 rfl ?_
  refine z_aload_n C dX12_bring_77 0 rfl ?_
  refine rw_g_X12_64_M_M C dX12_bring_78 ?_
  refine z_iconst C 3 dX12_bring_81 (by decide) ?_
  refine z_iload_n C dX12_bring_82 3 rfl ?_
  refine z_imul C dX12_bring_83 ?_
  refine z_iload C dX12_bring_84 6 rfl ?_
  refine z_iadd C dX12_bring_86 ?_
  refine rw_l_M_M_38 C dX12_bring_87 h (fun h => ?_)
  refine z_iadd C dX12_bring_88 ?_
  refine z_istoreN C dX12_bring_89 (by decide) (lvr := [(0, .ref (qM 0)), (1, .int x1), (2, .int x2), (3, .int x3), (4, .int x4), (6, .int x6)]) rfl h (fun x5_14 h => ?_)
  refine z_iinc C dX12_bring_91 6 rfl 1 (by decide) (by decide) (lvr := [(5, .int x5_14), (0, .ref (qM 0)), (1, .int x1), (2, .int x2), (3, .int x3), (4, .int x4)]) rfl h (fun x6_15 h => ?_)
  refine z_goto C dX12_bring_94 38 (by decide) ?_
  refine z_perm [2, 3, 4, 5, 6, 1, 0] (lv' := [(0, .ref (qM 0)), (1, .int x1), (2, .int x2), (3, .int x3), (4, .int x4), (5, .int x5_14), (6, .int x6_15)]) rfl ?_
  exact hK38 _  _ _ _ _ _ _ h
set_option maxHeartbeats 4000000 in
set_option maxRecDepth 100000 in
theorem kM_bring_l38b {x : zX} {G : zG} {qM : Nat → Nat}  {out : zSt} (C : zC x G RX12 cX12_bring 7 none rmX12_bring) (O : zO x G none (wdM G qM out) 0 0) {K38 : zSt → Int32 → Int32 → Int32 → Int32 → Int32 → Int32 → Option (zSt)} (hK38 : ∀ (sM : zSt) (x1 : Int32) (x2 : Int32) (x3 : Int32) (x4 : Int32) (x5 : Int32) (x6 : Int32), K38 sM x1 x2 x3 x4 x5 x6 = some out → zW x G 0 0 38 [(0, .ref (qM 0)), (1, .int x1), (2, .int x2), (3, .int x3), (4, .int x4), (5, .int x5), (6, .int x6)] [] (wdM G qM sM)) {sM : zSt} {x1 : Int32} {x2 : Int32} {x3 : Int32} {x4 : Int32} {x5 : Int32} {x6 : Int32} (h : fM_bring_l38b K38 sM x1 x2 x3 x4 x5 x6 = some out) : zW x G 0 0 38 [(0, .ref (qM 0)), (1, .int x1), (2, .int x2), (3, .int x3), (4, .int x4), (5, .int x5), (6, .int x6)] [] (wdM G qM sM) := by
  unfold fM_bring_l38b at h
  refine z_iload C dX12_bring_38 6 rfl ?_
  refine z_iconst C 3 dX12_bring_40 (by decide) ?_
  refine z_icmp_ge C dX12_bring_41 97 (by decide) h (fun h => ?_) (fun h => ?_)
  · refine z_aload_n C dX12_bring_97 0 rfl ?_
    refine rw_g_X12_61_M_M C dX12_bring_98 ?_
    refine z_iload_n C dX12_bring_101 3 rfl ?_
    refine z_iload C dX12_bring_102 4 rfl ?_
    refine z_if_eq C dX12_bring_104 111 (by decide) h (fun h => ?_) (fun h => ?_)
    · refine z_aload_n C dX12_bring_111 0 rfl ?_
      refine rw_g_X12_22_M_M C dX12_bring_112 ?_
      refine z_iload_n C dX12_bring_115 2 rfl ?_
      refine z_iconst C 2 dX12_bring_116 (by decide) ?_
      refine z_iadd C dX12_bring_117 ?_
      refine rw_l_M_M_10 C dX12_bring_118 h (fun h => ?_)
      refine z_perm [0, 1, 2, 3, 4, 5] (lv' := [(0, .ref (qM 0)), (1, .int x1), (2, .int x2), (3, .int x3), (4, .int x4), (5, .int x5)]) rfl ?_
      exact kM_bring_b119 C O  h
    · refine z_iconst C 4 dX12_bring_107 (by decide) ?_
      refine z_goto C dX12_bring_108 119 (by decide) ?_
      refine z_perm [0, 1, 2, 3, 4, 5] (lv' := [(0, .ref (qM 0)), (1, .int x1), (2, .int x2), (3, .int x3), (4, .int x4), (5, .int x5)]) rfl ?_
      exact kM_bring_b119 C O  h
  · refine z_aload_n C dX12_bring_44 0 rfl ?_
    refine rw_g_X12_64_M_M C dX12_bring_45 ?_
    refine z_iconst C 3 dX12_bring_48 (by decide) ?_
    refine z_iload_n C dX12_bring_49 3 rfl ?_
    refine z_imul C dX12_bring_50 ?_
    refine z_iload C dX12_bring_51 6 rfl ?_
    refine z_iadd C dX12_bring_53 ?_
    refine z_iload C dX12_bring_54 4 rfl ?_
    refine z_if_eq C dX12_bring_56 73 (by decide) h (fun h => ?_) (fun h => ?_)
    · refine z_iconst C 0 dX12_bring_73 (by decide) ?_
      exact kM_bring_b74 C O hK38 h
    · refine z_aload_n C dX12_bring_59 0 rfl ?_
      refine rw_g_X12_22_M_M C dX12_bring_60 ?_
      refine z_iload_n C dX12_bring_63 2 rfl ?_
      refine z_iconst C 2 dX12_bring_64 (by decide) ?_
      refine z_iadd C dX12_bring_65 ?_
      refine z_iload C dX12_bring_66 6 rfl ?_
      refine z_iadd C dX12_bring_68 ?_
      refine rw_l_M_M_10 C dX12_bring_69 h (fun h => ?_)
      refine z_goto C dX12_bring_70 74 (by decide) ?_
      exact kM_bring_b74 C O hK38 h
set_option maxHeartbeats 4000000 in
set_option maxRecDepth 100000 in
theorem kM_bring_l38 {x : zX} {G : zG} {qM : Nat → Nat}  {out : zSt} (C : zC x G RX12 cX12_bring 7 none rmX12_bring) (O : zO x G none (wdM G qM out) 0 0)  : ∀ (n : Nat) {sM : zSt} {x1 : Int32} {x2 : Int32} {x3 : Int32} {x4 : Int32} {x5 : Int32} {x6 : Int32}, fM_bring_l38  n sM x1 x2 x3 x4 x5 x6 = some out → zW x G 0 0 38 [(0, .ref (qM 0)), (1, .int x1), (2, .int x2), (3, .int x3), (4, .int x4), (5, .int x5), (6, .int x6)] [] (wdM G qM sM) := by
  intro n
  induction n with
  | zero =>
    intro sM x1 x2 x3 x4 x5 x6 h
    have h : (none : Option (zSt)) = some out := h
    cases h
  | succ n ih =>
    intro sM x1 x2 x3 x4 x5 x6 h
    exact kM_bring_l38b C O (K38 := fun v0 v1 v2 v3 v4 v5 v6 => fM_bring_l38  n v0 v1 v2 v3 v4 v5 v6) (fun sM x1 x2 x3 x4 x5 x6 h => ih h) h
set_option maxHeartbeats 4000000 in
set_option maxRecDepth 100000 in
theorem kM_bring_b30 {x : zX} {G : zG} {qM : Nat → Nat}  {out : zSt} (C : zC x G RX12 cX12_bring 7 none rmX12_bring) (O : zO x G none (wdM G qM out) 0 0)  {sM : zSt} {x1 : Int32} {x2 : Int32} {x3 : Int32} {t0 : Int32} (h : fM_bring_b30  sM x1 x2 x3 t0 = some out) : zW x G 0 0 30 [(0, .ref (qM 0)), (1, .int x1), (2, .int x2), (3, .int x3)] [.int t0] (wdM G qM sM) := by
  unfold fM_bring_b30 at h
  refine z_istore C dX12_bring_30 (by decide) (lvr := [(0, .ref (qM 0)), (1, .int x1), (2, .int x2), (3, .int x3)]) rfl ?_
  refine z_iconst C 0 dX12_bring_32 (by decide) ?_
  refine z_istore C dX12_bring_33 (by decide) (lvr := [(4, .int t0), (0, .ref (qM 0)), (1, .int x1), (2, .int x2), (3, .int x3)]) rfl ?_
  refine z_iconst C 0 dX12_bring_35 (by decide) ?_
  refine z_istore C dX12_bring_36 (by decide) (lvr := [(5, .int 0), (4, .int t0), (0, .ref (qM 0)), (1, .int x1), (2, .int x2), (3, .int x3)]) rfl ?_
  refine z_perm [3, 4, 5, 6, 2, 1, 0] (lv' := [(0, .ref (qM 0)), (1, .int x1), (2, .int x2), (3, .int x3), (4, .int t0), (5, .int 0), (6, .int 0)]) rfl ?_
  exact kM_bring_l38 C O  zF h
set_option maxHeartbeats 4000000 in
set_option maxRecDepth 100000 in
theorem cM_bring {l : Launch} {G : zG} {qM : Nat → Nat} {sM : zSt} {a0 : Int32} {a1 : Int32} {out : zSt} (h : fM_bring sM a0 a1 = some out) : Ct l G yX12_bring cX12_bring 7 none rmX12_bring [.ref (qM 0), .int a0, .int a1] (wdM G qM sM) none (wdM G qM out) := by
  refine zMet (own := RX12) rfl (by decide) (Nat.le_of_ble_eq_true rfl) (fun x hl C O => ?_)
  show zW x G 0 0 0 [(0, .ref (qM 0)), (1, .int a0), (2, .int a1)] [] _
  unfold fM_bring at h
  refine z_aload_n C dX12_bring_0 0 rfl ?_
  refine rw_g_X12_297_M_M C dX12_bring_1 ?_
  refine z_istore_nN C dX12_bring_4 (by decide) (lvr := [(0, .ref (qM 0)), (1, .int a0), (2, .int a1)]) rfl h (fun x3_1 h => ?_)
  refine z_aload_n C dX12_bring_5 1 rfl ?_
  refine z_dup C dX12_bring_6 rfl ?_
  refine rw_g_X12_297_M_M C dX12_bring_7 ?_
  refine z_iconst C 1 dX12_bring_10 (by decide) ?_
  refine z_iadd C dX12_bring_11 ?_
  refine rw_p_X12_297_M_M C dX12_bring_12 h (fun sM2 h => ?_)
  refine z_aload_n C dX12_bring_15 1 rfl ?_
  refine rw_g_X12_22_M_M C dX12_bring_16 ?_
  refine z_iload_n C dX12_bring_19 3 rfl ?_
  refine rw_l_M_M_10 C dX12_bring_20 h (fun h => ?_)
  refine z_iconst C 1 dX12_bring_21 (by decide) ?_
  refine z_icmp_ne C dX12_bring_22 29 (by decide) h (fun h => ?_) (fun h => ?_)
  · refine z_iconst C 0 dX12_bring_29 (by decide) ?_
    refine z_perm [1, 2, 3, 0] (lv' := [(0, .ref (qM 0)), (1, .int a0), (2, .int a1), (3, .int x3_1)]) rfl ?_
    exact kM_bring_b30 C O  h
  · refine z_iconst C 1 dX12_bring_25 (by decide) ?_
    refine z_goto C dX12_bring_26 30 (by decide) ?_
    refine z_perm [1, 2, 3, 0] (lv' := [(0, .ref (qM 0)), (1, .int a0), (2, .int a1), (3, .int x3_1)]) rfl ?_
    exact kM_bring_b30 C O  h
set_option maxHeartbeats 4000000 in
set_option maxRecDepth 100000 in
theorem kM_move_l7b {x : zX} {G : zG} {qM : Nat → Nat}  {out : zSt} (C : zC x G RX12 cX12_move 4 none rmX12_move) (O : zO x G none (wdM G qM out) 0 0) {K7 : zSt → Int32 → Int32 → Int32 → Option (zSt)} (hK7 : ∀ (sM : zSt) (x1 : Int32) (x2 : Int32) (x3 : Int32), K7 sM x1 x2 x3 = some out → zW x G 0 0 7 [(0, .ref (qM 0)), (1, .int x1), (2, .int x2), (3, .int x3)] [] (wdM G qM sM)) {sM : zSt} {x1 : Int32} {x2 : Int32} {x3 : Int32} (h : fM_move_l7b K7 sM x1 x2 x3 = some out) : zW x G 0 0 7 [(0, .ref (qM 0)), (1, .int x1), (2, .int x2), (3, .int x3)] [] (wdM G qM sM) := by
  unfold fM_move_l7b at h
  refine z_iload_n C dX12_move_7 3 rfl ?_
  refine z_aload_n C dX12_move_8 0 rfl ?_
  refine rw_g_X12_297_M_M C dX12_move_9 ?_
  refine z_icmp_ge C dX12_move_12 44 (by decide) h (fun h => ?_) (fun h => ?_)
  · replace h := Option.some.inj h
    subst h
    exact z_vret C O dX12_move_44 rfl rfl
  · refine z_aload_n C dX12_move_15 0 rfl ?_
    refine rw_g_X12_19_M_M C dX12_move_16 ?_
    refine z_bipush C 8 dX12_move_19 (by decide) ?_
    refine z_iload_n C dX12_move_21 1 rfl ?_
    refine z_imul C dX12_move_22 ?_
    refine z_bipush C 6 dX12_move_23 (by decide) ?_
    refine z_iadd C dX12_move_25 ?_
    refine rw_l_M_M_9 C dX12_move_26 h (fun h => ?_)
    refine z_iconst C 1 dX12_move_27 (by decide) ?_
    refine z_icmp_ne C dX12_move_28 44 (by decide) h (fun h => ?_) (fun h => ?_)
    · replace h := Option.some.inj h
      subst h
      exact z_vret C O dX12_move_44 rfl rfl
    · refine z_aload_n C dX12_move_31 0 rfl ?_
      refine z_iload_n C dX12_move_32 3 rfl ?_
      refine z_iload_n C dX12_move_33 2 rfl ?_
      refine z_iconst C 2 dX12_move_34 (by decide) ?_
      obtain ⟨y2, hy2, h⟩ := bind_o h
      refine rw_c_X12_304 C (cM_fall hy2) 0 rfl dX12_move_35 (Nat.le_of_ble_eq_true rfl) (zrm rfl) ?_
      refine z_iinc C dX12_move_38 3 rfl 1 (by decide) (by decide) (lvr := [(0, .ref (qM 0)), (1, .int x1), (2, .int x2)]) rfl h (fun x3_3 h => ?_)
      refine z_goto C dX12_move_41 7 (by decide) ?_
      refine z_perm [1, 2, 3, 0] (lv' := [(0, .ref (qM 0)), (1, .int x1), (2, .int x2), (3, .int x3_3)]) rfl ?_
      exact hK7 _  _ _ _ h
set_option maxHeartbeats 4000000 in
set_option maxRecDepth 100000 in
theorem kM_move_l7 {x : zX} {G : zG} {qM : Nat → Nat}  {out : zSt} (C : zC x G RX12 cX12_move 4 none rmX12_move) (O : zO x G none (wdM G qM out) 0 0)  : ∀ (n : Nat) {sM : zSt} {x1 : Int32} {x2 : Int32} {x3 : Int32}, fM_move_l7  n sM x1 x2 x3 = some out → zW x G 0 0 7 [(0, .ref (qM 0)), (1, .int x1), (2, .int x2), (3, .int x3)] [] (wdM G qM sM) := by
  intro n
  induction n with
  | zero =>
    intro sM x1 x2 x3 h
    have h : (none : Option (zSt)) = some out := h
    cases h
  | succ n ih =>
    intro sM x1 x2 x3 h
    exact kM_move_l7b C O (K7 := fun v0 v1 v2 v3 => fM_move_l7  n v0 v1 v2 v3) (fun sM x1 x2 x3 h => ih h) h
set_option maxHeartbeats 4000000 in
set_option maxRecDepth 100000 in
theorem cM_move {l : Launch} {G : zG} {qM : Nat → Nat} {sM : zSt} {a0 : Int32} {a1 : Int32} {out : zSt} (h : fM_move sM a0 a1 = some out) : Ct l G yX12_move cX12_move 4 none rmX12_move [.ref (qM 0), .int a0, .int a1] (wdM G qM sM) none (wdM G qM out) := by
  refine zMet (own := RX12) rfl (by decide) (Nat.le_of_ble_eq_true rfl) (fun x hl C O => ?_)
  show zW x G 0 0 0 [(0, .ref (qM 0)), (1, .int a0), (2, .int a1)] [] _
  unfold fM_move at h
  refine z_aload_n C dX12_move_0 0 rfl ?_
  refine z_iload_n C dX12_move_1 1 rfl ?_
  refine rw_p_X12_288_M_M C dX12_move_2 h (fun sM1 h => ?_)
  refine z_iconst C 0 dX12_move_5 (by decide) ?_
  refine z_istore_n C dX12_move_6 (by decide) (lvr := [(0, .ref (qM 0)), (1, .int a0), (2, .int a1)]) rfl ?_
  refine z_perm [1, 2, 3, 0] (lv' := [(0, .ref (qM 0)), (1, .int a0), (2, .int a1), (3, .int 0)]) rfl ?_
  exact kM_move_l7 C O  zF h
set_option maxHeartbeats 4000000 in
set_option maxRecDepth 100000 in
theorem cM_happen {l : Launch} {G : zG} {qM : Nat → Nat} {sM : zSt} {a0 : Int32} {out : zSt} (h : fM_happen sM a0 = some out) : Ct l G yX12_happen cX12_happen 5 none rmX12_happen [.ref (qM 0), .int a0] (wdM G qM sM) none (wdM G qM out) := by
  refine zMet (own := RX12) rfl (by decide) (Nat.le_of_ble_eq_true rfl) (fun x hl C O => ?_)
  show zW x G 0 0 0 [(0, .ref (qM 0)), (1, .int a0)] [] _
  unfold fM_happen at h
  refine z_bipush C 6 dX12_happen_0 (by decide) ?_
  refine z_iload_n C dX12_happen_2 1 rfl ?_
  refine z_imul C dX12_happen_3 ?_
  refine z_istore_nN C dX12_happen_4 (by decide) (lvr := [(0, .ref (qM 0)), (1, .int a0)]) rfl h (fun x2_1 h => ?_)
  refine z_aload_n C dX12_happen_5 1 rfl ?_
  refine rw_g_X12_22_M_M C dX12_happen_6 ?_
  refine z_iload_n C dX12_happen_9 0 rfl ?_
  refine z_iconst C 2 dX12_happen_10 (by decide) ?_
  refine z_iadd C dX12_happen_11 ?_
  refine rw_l_M_M_10 C dX12_happen_12 h (fun h => ?_)
  refine z_istore_nN C dX12_happen_13 (by decide) (lvr := [(2, .int x2_1), (0, .ref (qM 0)), (1, .int a0)]) rfl h (fun x3_2 h => ?_)
  refine z_aload_n C dX12_happen_14 2 rfl ?_
  refine rw_g_X12_22_M_M C dX12_happen_15 ?_
  refine z_iload_n C dX12_happen_18 1 rfl ?_
  refine z_iconst C 3 dX12_happen_19 (by decide) ?_
  refine z_iadd C dX12_happen_20 ?_
  refine rw_l_M_M_10 C dX12_happen_21 h (fun h => ?_)
  refine z_istoreN C dX12_happen_22 (by decide) (lvr := [(3, .int x3_2), (2, .int x2_1), (0, .ref (qM 0)), (1, .int a0)]) rfl h (fun x4_3 h => ?_)
  refine z_aload_n C dX12_happen_24 3 rfl ?_
  refine rw_g_X12_22_M_M C dX12_happen_25 ?_
  refine z_iload_n C dX12_happen_28 2 rfl ?_
  refine rw_l_M_M_10 C dX12_happen_29 h (fun h => ?_)
  by_cases hc2 : (zA sM 10 x2_1.toNatClampNeg) = 2
  · refine z_tcase (off := 34) C dX12_happen_30 2 hc2 (by decide) (by decide) (by decide) 64 (by decide) ?_
    replace h := zite_t h hc2
    refine z_aload_n C dX12_happen_64 3 rfl ?_
    refine rw_g_X12_52_M_M C dX12_happen_65 ?_
    refine z_iload_n C dX12_happen_68 1 rfl ?_
    refine z_dup2 C dX12_happen_69 rfl rfl ?_
    refine rw_l_M_M_34 C dX12_happen_70 h (fun h => ?_)
    refine z_aload_n C dX12_happen_71 3 rfl ?_
    refine rw_g_X12_22_M_M C dX12_happen_72 ?_
    refine z_iload_n C dX12_happen_75 2 rfl ?_
    refine z_iconst C 4 dX12_happen_76 (by decide) ?_
    refine z_iadd C dX12_happen_77 ?_
    refine rw_l_M_M_10 C dX12_happen_78 h (fun h => ?_)
    refine z_iadd C dX12_happen_79 ?_
    refine rw_s_M_M_34 C dX12_happen_80 h (fun sM4 h => ?_)
    refine z_aload_n C dX12_happen_81 3 rfl ?_
    refine z_iload_n C dX12_happen_82 1 rfl ?_
    refine z_iload C dX12_happen_83 0 rfl ?_
    refine z_aload_n C dX12_happen_85 3 rfl ?_
    refine rw_g_X12_22_M_M C dX12_happen_86 ?_
    refine z_iload_n C dX12_happen_89 2 rfl ?_
    refine z_iconst C 4 dX12_happen_90 (by decide) ?_
    refine z_iadd C dX12_happen_91 ?_
    refine rw_l_M_M_10 C dX12_happen_92 h (fun h => ?_)
    obtain ⟨y5, hy5, h⟩ := bind_o h
    refine rw_c_X12_300 C (cM_putIn hy5) 0 rfl dX12_happen_93 (Nat.le_of_ble_eq_true rfl) (zrm rfl) ?_
    refine z_goto C dX12_happen_96 150 (by decide) ?_
    replace h := Option.some.inj h
    subst h
    exact z_vret C O dX12_happen_150 rfl rfl
  · replace h := zite_f h hc2
    by_cases hc3 : (zA sM 10 x2_1.toNatClampNeg) = 3
    · refine z_tcase (off := 69) C dX12_happen_30 3 hc3 (by decide) (by decide) (by decide) 99 (by decide) ?_
      replace h := zite_t h hc3
      refine z_aload_n C dX12_happen_99 3 rfl ?_
      refine rw_g_X12_52_M_M C dX12_happen_100 ?_
      refine z_iload_n C dX12_happen_103 1 rfl ?_
      refine z_iload C dX12_happen_104 0 rfl ?_
      refine rw_s_M_M_34 C dX12_happen_106 h (fun sM6 h => ?_)
      refine z_goto C dX12_happen_107 150 (by decide) ?_
      replace h := Option.some.inj h
      subst h
      exact z_vret C O dX12_happen_150 rfl rfl
    · replace h := zite_f h hc3
      by_cases hc4 : (zA sM 10 x2_1.toNatClampNeg) = 4
      · refine z_tcase (off := 80) C dX12_happen_30 4 hc4 (by decide) (by decide) (by decide) 110 (by decide) ?_
        replace h := zite_t h hc4
        refine z_aload_n C dX12_happen_110 3 rfl ?_
        refine rw_g_X12_67_M_M C dX12_happen_111 ?_
        refine z_iload_n C dX12_happen_114 1 rfl ?_
        refine z_dup2 C dX12_happen_115 rfl rfl ?_
        refine rw_l_M_M_39 C dX12_happen_116 h (fun h => ?_)
        refine z_iload C dX12_happen_117 0 rfl ?_
        refine z_iadd C dX12_happen_119 ?_
        refine rw_s_M_M_39 C dX12_happen_120 h (fun sM7 h => ?_)
        refine z_goto C dX12_happen_121 150 (by decide) ?_
        replace h := Option.some.inj h
        subst h
        exact z_vret C O dX12_happen_150 rfl rfl
      · replace h := zite_f h hc4
        by_cases hc5 : (zA sM 10 x2_1.toNatClampNeg) = 5
        · refine z_tcase (off := 94) C dX12_happen_30 5 hc5 (by decide) (by decide) (by decide) 124 (by decide) ?_
          replace h := zite_t h hc5
          refine z_aload_n C dX12_happen_124 3 rfl ?_
          refine z_iload_n C dX12_happen_125 1 rfl ?_
          refine z_iload_n C dX12_happen_126 4 rfl ?_
          obtain ⟨y8, hy8, h⟩ := bind_o h
          refine rw_c_X12_307 C (cM_move hy8) 0 rfl dX12_happen_127 (Nat.le_of_ble_eq_true rfl) (zrm rfl) ?_
          refine z_goto C dX12_happen_130 150 (by decide) ?_
          replace h := Option.some.inj h
          subst h
          exact z_vret C O dX12_happen_150 rfl rfl
        · replace h := zite_f h hc5
          by_cases hc6 : (zA sM 10 x2_1.toNatClampNeg) = 6
          · refine z_tcase (off := 103) C dX12_happen_30 6 hc6 (by decide) (by decide) (by decide) 133 (by decide) ?_
            replace h := zite_t h hc6
            refine z_aload_n C dX12_happen_133 3 rfl ?_
            refine rw_g_X12_34_M_M C dX12_happen_134 ?_
            refine z_iload_n C dX12_happen_137 1 rfl ?_
            refine z_iload C dX12_happen_138 0 rfl ?_
            refine rw_s_M_M_27 C dX12_happen_140 h (fun sM9 h => ?_)
            refine z_goto C dX12_happen_141 150 (by decide) ?_
            replace h := Option.some.inj h
            subst h
            exact z_vret C O dX12_happen_150 rfl rfl
          · replace h := zite_f h hc6
            refine z_tout C dX12_happen_30 (ztoutL 5 (by decide) (by intro k hk; match k, hk with | 0, _ => exact hc2 | 1, _ => exact hc3 | 2, _ => exact hc4 | 3, _ => exact hc5 | 4, _ => exact hc6 | k + 5, hk => exact absurd hk (by omega))) 144 (by decide) ?_
            refine z_aload_n C dX12_happen_144 3 rfl ?_
            refine z_iload_n C dX12_happen_145 4 rfl ?_
            refine z_iload_n C dX12_happen_146 2 rfl ?_
            obtain ⟨y10, hy10, h⟩ := bind_o h
            refine rw_c_X12_310 C (cM_bring hy10) 0 rfl dX12_happen_147 (Nat.le_of_ble_eq_true rfl) (zrm rfl) ?_
            replace h := Option.some.inj h
            subst h
            exact z_vret C O dX12_happen_150 rfl rfl
set_option maxHeartbeats 4000000 in
set_option maxRecDepth 100000 in
theorem kM_goThrough_b134 {x : zX} {G : zG} {qM : Nat → Nat}  {out : zSt} (C : zC x G RX12 cX12_goThrough 10 none rmX12_goThrough) (O : zO x G none (wdM G qM out) 0 0) {K89 : zSt → Int32 → Int32 → Int32 → Int32 → Int32 → Int32 → Option (zSt)} (hK89 : ∀ (sM : zSt) (x1 : Int32) (x2 : Int32) (x3 : Int32) (x4 : Int32) (x7 : Int32) (x8 : Int32), K89 sM x1 x2 x3 x4 x7 x8 = some out → zW x G 0 0 89 [(0, .ref (qM 0)), (1, .int x1), (2, .int x2), (3, .int x3), (4, .int x4), (7, .int x7), (8, .int x8)] [] (wdM G qM sM)) {sM : zSt} {x1 : Int32} {x2 : Int32} {x3 : Int32} {x4 : Int32} {x7 : Int32} {x8 : Int32} {x9 : Int32} (h : fM_goThrough_b134 K89 sM x1 x2 x3 x4 x7 x8 x9 = some out) : zW x G 0 0 134 [(0, .ref (qM 0)), (1, .int x1), (2, .int x2), (3, .int x3), (4, .int x4), (7, .int x7), (8, .int x8), (9, .int x9)] [] (wdM G qM sM) := by
  unfold fM_goThrough_b134 at h
  refine z_iload C dX12_goThrough_134 7 rfl ?_
  refine z_iload_n C dX12_goThrough_136 1 rfl ?_
  refine z_icmp_gt C dX12_goThrough_137 152 (by decide) h (fun h => ?_) (fun h => ?_)
  · refine z_iinc C dX12_goThrough_152 6 rfl 1 (by decide) (by decide) (lvr := [(0, .ref (qM 0)), (1, .int x1), (2, .int x2), (3, .int x3), (4, .int x4), (7, .int x7), (9, .int x9)]) rfl h (fun x8_6 h => ?_)
    refine z_goto C dX12_goThrough_155 89 (by decide) ?_
    refine z_perm [1, 2, 3, 4, 5, 6, 0] (lv' := [(0, .ref (qM 0)), (1, .int x1), (2, .int x2), (3, .int x3), (4, .int x4), (7, .int x7), (8, .int x8_6)]) rfl ?_
    exact hK89 _  _ _ _ _ _ _ h
  · refine z_iload C dX12_goThrough_140 6 rfl ?_
    refine z_iload_n C dX12_goThrough_142 2 rfl ?_
    refine z_icmp_eq C dX12_goThrough_143 152 (by decide) h (fun h => ?_) (fun h => ?_)
    · refine z_iinc C dX12_goThrough_152 6 rfl 1 (by decide) (by decide) (lvr := [(0, .ref (qM 0)), (1, .int x1), (2, .int x2), (3, .int x3), (4, .int x4), (7, .int x7), (9, .int x9)]) rfl h (fun x8_7 h => ?_)
      refine z_goto C dX12_goThrough_155 89 (by decide) ?_
      refine z_perm [1, 2, 3, 4, 5, 6, 0] (lv' := [(0, .ref (qM 0)), (1, .int x1), (2, .int x2), (3, .int x3), (4, .int x4), (7, .int x7), (8, .int x8_7)]) rfl ?_
      exact hK89 _  _ _ _ _ _ _ h
    · refine z_aload_n C dX12_goThrough_146 0 rfl ?_
      refine z_iload C dX12_goThrough_147 6 rfl ?_
      obtain ⟨y8, hy8, h⟩ := bind_o h
      refine rw_c_X12_313 C (cM_happen hy8) 0 rfl dX12_goThrough_149 (Nat.le_of_ble_eq_true rfl) (zrm rfl) ?_
      refine z_iinc C dX12_goThrough_152 6 rfl 1 (by decide) (by decide) (lvr := [(0, .ref (qM 0)), (1, .int x1), (2, .int x2), (3, .int x3), (4, .int x4), (7, .int x7), (9, .int x9)]) rfl h (fun x8_9 h => ?_)
      refine z_goto C dX12_goThrough_155 89 (by decide) ?_
      refine z_perm [1, 2, 3, 4, 5, 6, 0] (lv' := [(0, .ref (qM 0)), (1, .int x1), (2, .int x2), (3, .int x3), (4, .int x4), (7, .int x7), (8, .int x8_9)]) rfl ?_
      exact hK89 _  _ _ _ _ _ _ h
set_option maxHeartbeats 4000000 in
set_option maxRecDepth 100000 in
theorem kM_goThrough_l89b {x : zX} {G : zG} {qM : Nat → Nat}  {out : zSt} (C : zC x G RX12 cX12_goThrough 10 none rmX12_goThrough) (O : zO x G none (wdM G qM out) 0 0) {K89 : zSt → Int32 → Int32 → Int32 → Int32 → Int32 → Int32 → Option (zSt)} (hK89 : ∀ (sM : zSt) (x1 : Int32) (x2 : Int32) (x3 : Int32) (x4 : Int32) (x7 : Int32) (x8 : Int32), K89 sM x1 x2 x3 x4 x7 x8 = some out → zW x G 0 0 89 [(0, .ref (qM 0)), (1, .int x1), (2, .int x2), (3, .int x3), (4, .int x4), (7, .int x7), (8, .int x8)] [] (wdM G qM sM)) {sM : zSt} {x1 : Int32} {x2 : Int32} {x3 : Int32} {x4 : Int32} {x7 : Int32} {x8 : Int32} (h : fM_goThrough_l89b K89 sM x1 x2 x3 x4 x7 x8 = some out) : zW x G 0 0 89 [(0, .ref (qM 0)), (1, .int x1), (2, .int x2), (3, .int x3), (4, .int x4), (7, .int x7), (8, .int x8)] [] (wdM G qM sM) := by
  unfold fM_goThrough_l89b at h
  refine z_iload C dX12_goThrough_89 6 rfl ?_
  refine z_aload_n C dX12_goThrough_91 0 rfl ?_
  refine rw_g_X12_282_M_M C dX12_goThrough_92 ?_
  refine z_icmp_ge C dX12_goThrough_95 158 (by decide) h (fun h => ?_) (fun h => ?_)
  · refine z_iload C dX12_goThrough_158 5 rfl ?_
    refine z_if_ne C dX12_goThrough_160 173 (by decide) h (fun h => ?_) (fun h => ?_)
    · replace h := Option.some.inj h
      subst h
      exact z_vret C O dX12_goThrough_173 rfl rfl
    · refine z_aload_n C dX12_goThrough_163 0 rfl ?_
      refine z_iload C dX12_goThrough_164 4 rfl ?_
      refine z_aload_n C dX12_goThrough_166 0 rfl ?_
      refine rw_g_X12_282_M_M C dX12_goThrough_167 ?_
      obtain ⟨y4, hy4, h⟩ := bind_o h
      refine rw_c_X12_307 C (cM_move hy4) 0 rfl dX12_goThrough_170 (Nat.le_of_ble_eq_true rfl) (zrm rfl) ?_
      replace h := Option.some.inj h
      subst h
      exact z_vret C O dX12_goThrough_173 rfl rfl
  · refine z_aload_n C dX12_goThrough_98 0 rfl ?_
    refine rw_g_X12_22_M_M C dX12_goThrough_99 ?_
    refine z_bipush C 6 dX12_goThrough_102 (by decide) ?_
    refine z_iload C dX12_goThrough_104 6 rfl ?_
    refine z_imul C dX12_goThrough_106 ?_
    refine z_iconst C 1 dX12_goThrough_107 (by decide) ?_
    refine z_iadd C dX12_goThrough_108 ?_
    refine rw_l_M_M_10 C dX12_goThrough_109 h (fun h => ?_)
    refine z_istoreN C dX12_goThrough_110 (by decide) (lvr := [(0, .ref (qM 0)), (1, .int x1), (2, .int x2), (3, .int x3), (4, .int x4), (7, .int x7), (8, .int x8)]) rfl h (fun x9_5 h => ?_)
    refine z_iload C dX12_goThrough_112 6 rfl ?_
    refine z_if_ne C dX12_goThrough_114 134 (by decide) h (fun h => ?_) (fun h => ?_)
    · refine z_perm [1, 2, 3, 4, 5, 6, 7, 0] (lv' := [(0, .ref (qM 0)), (1, .int x1), (2, .int x2), (3, .int x3), (4, .int x4), (7, .int x7), (8, .int x8), (9, .int x9_5)]) rfl ?_
      exact kM_goThrough_b134 C O hK89 h
    · refine z_iload C dX12_goThrough_117 0 rfl ?_
      refine z_iload_n C dX12_goThrough_119 4 rfl ?_
      refine z_icmp_lt C dX12_goThrough_120 134 (by decide) h (fun h => ?_) (fun h => ?_)
      · refine z_perm [1, 2, 3, 4, 5, 6, 7, 0] (lv' := [(0, .ref (qM 0)), (1, .int x1), (2, .int x2), (3, .int x3), (4, .int x4), (7, .int x7), (8, .int x8), (9, .int x9_5)]) rfl ?_
        exact kM_goThrough_b134 C O hK89 h
      · refine z_aload_n C dX12_goThrough_123 1 rfl ?_
        refine z_iload C dX12_goThrough_124 5 rfl ?_
        refine z_iload C dX12_goThrough_126 7 rfl ?_
        obtain ⟨y10, hy10, h⟩ := bind_o h
        refine rw_c_X12_307 C (cM_move hy10) 0 rfl dX12_goThrough_128 (Nat.le_of_ble_eq_true rfl) (zrm rfl) ?_
        refine z_iconst C 1 dX12_goThrough_131 (by decide) ?_
        refine z_istore C dX12_goThrough_132 (by decide) (lvr := [(9, .int x9_5), (0, .ref (qM 0)), (1, .int x1), (2, .int x2), (3, .int x3), (4, .int x4), (8, .int x8)]) rfl ?_
        refine z_perm [2, 3, 4, 5, 6, 0, 7, 1] (lv' := [(0, .ref (qM 0)), (1, .int x1), (2, .int x2), (3, .int x3), (4, .int x4), (7, .int 1), (8, .int x8), (9, .int x9_5)]) rfl ?_
        exact kM_goThrough_b134 C O hK89 h
set_option maxHeartbeats 4000000 in
set_option maxRecDepth 100000 in
theorem kM_goThrough_l89 {x : zX} {G : zG} {qM : Nat → Nat}  {out : zSt} (C : zC x G RX12 cX12_goThrough 10 none rmX12_goThrough) (O : zO x G none (wdM G qM out) 0 0)  : ∀ (n : Nat) {sM : zSt} {x1 : Int32} {x2 : Int32} {x3 : Int32} {x4 : Int32} {x7 : Int32} {x8 : Int32}, fM_goThrough_l89  n sM x1 x2 x3 x4 x7 x8 = some out → zW x G 0 0 89 [(0, .ref (qM 0)), (1, .int x1), (2, .int x2), (3, .int x3), (4, .int x4), (7, .int x7), (8, .int x8)] [] (wdM G qM sM) := by
  intro n
  induction n with
  | zero =>
    intro sM x1 x2 x3 x4 x7 x8 h
    have h : (none : Option (zSt)) = some out := h
    cases h
  | succ n ih =>
    intro sM x1 x2 x3 x4 x7 x8 h
    exact kM_goThrough_l89b C O (K89 := fun v0 v1 v2 v3 v4 v5 v6 => fM_goThrough_l89  n v0 v1 v2 v3 v4 v5 v6) (fun sM x1 x2 x3 x4 x7 x8 h => ih h) h
set_option maxHeartbeats 4000000 in
set_option maxRecDepth 100000 in
theorem kM_goThrough_l54b {x : zX} {G : zG} {qM : Nat → Nat}  {out : zSt} (C : zC x G RX12 cX12_goThrough 10 none rmX12_goThrough) (O : zO x G none (wdM G qM out) 0 0) {K54 : zSt → Int32 → Int32 → Int32 → Int32 → Int32 → Option (zSt)} (hK54 : ∀ (sM : zSt) (x1 : Int32) (x2 : Int32) (x3 : Int32) (x4 : Int32) (x7 : Int32), K54 sM x1 x2 x3 x4 x7 = some out → zW x G 0 0 54 [(0, .ref (qM 0)), (1, .int x1), (2, .int x2), (3, .int x3), (4, .int x4), (7, .int x7)] [] (wdM G qM sM)) {sM : zSt} {x1 : Int32} {x2 : Int32} {x3 : Int32} {x4 : Int32} {x7 : Int32} (h : fM_goThrough_l54b K54 sM x1 x2 x3 x4 x7 = some out) : zW x G 0 0 54 [(0, .ref (qM 0)), (1, .int x1), (2, .int x2), (3, .int x3), (4, .int x4), (7, .int x7)] [] (wdM G qM sM) := by
  unfold fM_goThrough_l54b at h
  refine z_iload C dX12_goThrough_54 5 rfl ?_
  refine z_iconst C 3 dX12_goThrough_56 (by decide) ?_
  refine z_icmp_ge C dX12_goThrough_57 74 (by decide) h (fun h => ?_) (fun h => ?_)
  · refine z_iload C dX12_goThrough_74 4 rfl ?_
    refine z_if_ge C dX12_goThrough_76 83 (by decide) h (fun h => ?_) (fun h => ?_)
    · refine z_iconst C 0 dX12_goThrough_83 (by decide) ?_
      refine z_istore C dX12_goThrough_84 (by decide) (lvr := [(0, .ref (qM 0)), (1, .int x1), (2, .int x2), (3, .int x3), (4, .int x4)]) rfl ?_
      refine z_iconst C 0 dX12_goThrough_86 (by decide) ?_
      refine z_istore C dX12_goThrough_87 (by decide) (lvr := [(7, .int 0), (0, .ref (qM 0)), (1, .int x1), (2, .int x2), (3, .int x3), (4, .int x4)]) rfl ?_
      refine z_perm [2, 3, 4, 5, 6, 1, 0] (lv' := [(0, .ref (qM 0)), (1, .int x1), (2, .int x2), (3, .int x3), (4, .int x4), (7, .int 0), (8, .int 0)]) rfl ?_
      exact kM_goThrough_l89 C O  zF h
    · refine z_iconst C 1 dX12_goThrough_79 (by decide) ?_
      refine z_goto C dX12_goThrough_80 84 (by decide) ?_
      refine z_istore C dX12_goThrough_84 (by decide) (lvr := [(0, .ref (qM 0)), (1, .int x1), (2, .int x2), (3, .int x3), (4, .int x4)]) rfl ?_
      refine z_iconst C 0 dX12_goThrough_86 (by decide) ?_
      refine z_istore C dX12_goThrough_87 (by decide) (lvr := [(7, .int 1), (0, .ref (qM 0)), (1, .int x1), (2, .int x2), (3, .int x3), (4, .int x4)]) rfl ?_
      refine z_perm [2, 3, 4, 5, 6, 1, 0] (lv' := [(0, .ref (qM 0)), (1, .int x1), (2, .int x2), (3, .int x3), (4, .int x4), (7, .int 1), (8, .int 0)]) rfl ?_
      exact kM_goThrough_l89 C O  zF h
  · refine z_aload_n C dX12_goThrough_60 0 rfl ?_
    refine rw_g_X12_67_M_M C dX12_goThrough_61 ?_
    refine z_iload C dX12_goThrough_64 5 rfl ?_
    refine z_iconst C 0 dX12_goThrough_66 (by decide) ?_
    refine rw_s_M_M_39 C dX12_goThrough_67 h (fun sM11 h => ?_)
    refine z_iinc C dX12_goThrough_68 5 rfl 1 (by decide) (by decide) (lvr := [(0, .ref (qM 0)), (1, .int x1), (2, .int x2), (3, .int x3), (4, .int x4)]) rfl h (fun x7_12 h => ?_)
    refine z_goto C dX12_goThrough_71 54 (by decide) ?_
    refine z_perm [1, 2, 3, 4, 5, 0] (lv' := [(0, .ref (qM 0)), (1, .int x1), (2, .int x2), (3, .int x3), (4, .int x4), (7, .int x7_12)]) rfl ?_
    exact hK54 _  _ _ _ _ _ h
set_option maxHeartbeats 4000000 in
set_option maxRecDepth 100000 in
theorem kM_goThrough_l54 {x : zX} {G : zG} {qM : Nat → Nat}  {out : zSt} (C : zC x G RX12 cX12_goThrough 10 none rmX12_goThrough) (O : zO x G none (wdM G qM out) 0 0)  : ∀ (n : Nat) {sM : zSt} {x1 : Int32} {x2 : Int32} {x3 : Int32} {x4 : Int32} {x7 : Int32}, fM_goThrough_l54  n sM x1 x2 x3 x4 x7 = some out → zW x G 0 0 54 [(0, .ref (qM 0)), (1, .int x1), (2, .int x2), (3, .int x3), (4, .int x4), (7, .int x7)] [] (wdM G qM sM) := by
  intro n
  induction n with
  | zero =>
    intro sM x1 x2 x3 x4 x7 h
    have h : (none : Option (zSt)) = some out := h
    cases h
  | succ n ih =>
    intro sM x1 x2 x3 x4 x7 h
    exact kM_goThrough_l54b C O (K54 := fun v0 v1 v2 v3 v4 v5 => fM_goThrough_l54  n v0 v1 v2 v3 v4 v5) (fun sM x1 x2 x3 x4 x7 h => ih h) h
set_option maxHeartbeats 4000000 in
set_option maxRecDepth 100000 in
theorem kM_goThrough_l18b {x : zX} {G : zG} {qM : Nat → Nat}  {out : zSt} (C : zC x G RX12 cX12_goThrough 10 none rmX12_goThrough) (O : zO x G none (wdM G qM out) 0 0) {K18 : zSt → Int32 → Int32 → Int32 → Int32 → Int32 → Int32 → Int32 → Option (zSt)} (hK18 : ∀ (sM : zSt) (x1 : Int32) (x2 : Int32) (x3 : Int32) (x4 : Int32) (x5 : Int32) (x6 : Int32) (x7 : Int32), K18 sM x1 x2 x3 x4 x5 x6 x7 = some out → zW x G 0 0 18 [(0, .ref (qM 0)), (1, .int x1), (2, .int x2), (3, .int x3), (4, .int x4), (5, .int x5), (6, .int x6), (7, .int x7)] [] (wdM G qM sM)) {sM : zSt} {x1 : Int32} {x2 : Int32} {x3 : Int32} {x4 : Int32} {x5 : Int32} {x6 : Int32} {x7 : Int32} (h : fM_goThrough_l18b K18 sM x1 x2 x3 x4 x5 x6 x7 = some out) : zW x G 0 0 18 [(0, .ref (qM 0)), (1, .int x1), (2, .int x2), (3, .int x3), (4, .int x4), (5, .int x5), (6, .int x6), (7, .int x7)] [] (wdM G qM sM) := by
  unfold fM_goThrough_l18b at h
  refine z_iload C dX12_goThrough_18 7 rfl ?_
  refine z_iconst C 5 dX12_goThrough_20 (by decide) ?_
  refine z_icmp_ge C dX12_goThrough_21 51 (by decide) h (fun h => ?_) (fun h => ?_)
  · refine z_iconst C 0 dX12_goThrough_51 (by decide) ?_
    refine z_istore C dX12_goThrough_52 (by decide) (lvr := [(0, .ref (qM 0)), (1, .int x1), (2, .int x2), (3, .int x3), (4, .int x4), (5, .int x5), (6, .int x6)]) rfl ?_
    refine z_perm [1, 2, 3, 4, 5, 0] (lv' := [(0, .ref (qM 0)), (1, .int x1), (2, .int x2), (3, .int x3), (4, .int x4), (7, .int 0)]) rfl ?_
    exact kM_goThrough_l54 C O  zF h
  · refine z_aload_n C dX12_goThrough_24 0 rfl ?_
    refine rw_g_X12_34_M_M C dX12_goThrough_25 ?_
    refine z_iload C dX12_goThrough_28 7 rfl ?_
    refine z_iload C dX12_goThrough_30 7 rfl ?_
    refine z_iload C dX12_goThrough_32 5 rfl ?_
    refine z_icmp_ne C dX12_goThrough_34 42 (by decide) h (fun h => ?_) (fun h => ?_)
    · refine z_ldc C rw_u_1175 dX12_goThrough_42 ?_
      refine rw_s_M_M_27 C dX12_goThrough_44 h (fun sM13 h => ?_)
      refine z_iinc C dX12_goThrough_45 7 rfl 1 (by decide) (by decide) (lvr := [(0, .ref (qM 0)), (1, .int x1), (2, .int x2), (3, .int x3), (4, .int x4), (5, .int x5), (6, .int x6)]) rfl h (fun x7_14 h => ?_)
      refine z_goto C dX12_goThrough_48 18 (by decide) ?_
      refine z_perm [1, 2, 3, 4, 5, 6, 7, 0] (lv' := [(0, .ref (qM 0)), (1, .int x1), (2, .int x2), (3, .int x3), (4, .int x4), (5, .int x5), (6, .int x6), (7, .int x7_14)]) rfl ?_
      exact hK18 _  _ _ _ _ _ _ _ h
    · refine z_iload C dX12_goThrough_37 6 rfl ?_
      refine z_goto C dX12_goThrough_39 44 (by decide) ?_
      refine rw_s_M_M_27 C dX12_goThrough_44 h (fun sM15 h => ?_)
      refine z_iinc C dX12_goThrough_45 7 rfl 1 (by decide) (by decide) (lvr := [(0, .ref (qM 0)), (1, .int x1), (2, .int x2), (3, .int x3), (4, .int x4), (5, .int x5), (6, .int x6)]) rfl h (fun x7_16 h => ?_)
      refine z_goto C dX12_goThrough_48 18 (by decide) ?_
      refine z_perm [1, 2, 3, 4, 5, 6, 7, 0] (lv' := [(0, .ref (qM 0)), (1, .int x1), (2, .int x2), (3, .int x3), (4, .int x4), (5, .int x5), (6, .int x6), (7, .int x7_16)]) rfl ?_
      exact hK18 _  _ _ _ _ _ _ _ h
set_option maxHeartbeats 4000000 in
set_option maxRecDepth 100000 in
theorem kM_goThrough_l18 {x : zX} {G : zG} {qM : Nat → Nat}  {out : zSt} (C : zC x G RX12 cX12_goThrough 10 none rmX12_goThrough) (O : zO x G none (wdM G qM out) 0 0)  : ∀ (n : Nat) {sM : zSt} {x1 : Int32} {x2 : Int32} {x3 : Int32} {x4 : Int32} {x5 : Int32} {x6 : Int32} {x7 : Int32}, fM_goThrough_l18  n sM x1 x2 x3 x4 x5 x6 x7 = some out → zW x G 0 0 18 [(0, .ref (qM 0)), (1, .int x1), (2, .int x2), (3, .int x3), (4, .int x4), (5, .int x5), (6, .int x6), (7, .int x7)] [] (wdM G qM sM) := by
  intro n
  induction n with
  | zero =>
    intro sM x1 x2 x3 x4 x5 x6 x7 h
    have h : (none : Option (zSt)) = some out := h
    cases h
  | succ n ih =>
    intro sM x1 x2 x3 x4 x5 x6 x7 h
    exact kM_goThrough_l18b C O (K18 := fun v0 v1 v2 v3 v4 v5 v6 v7 => fM_goThrough_l18  n v0 v1 v2 v3 v4 v5 v6 v7) (fun sM x1 x2 x3 x4 x5 x6 x7 h => ih h) h
set_option maxHeartbeats 4000000 in
set_option maxRecDepth 100000 in
theorem cM_goThrough {l : Launch} {G : zG} {qM : Nat → Nat} {sM : zSt} {a0 : Int32} {a1 : Int32} {a2 : Int32} {a3 : Int32} {a4 : Int32} {a5 : Int32} {out : zSt} (h : fM_goThrough sM a0 a1 a2 a3 a4 a5 = some out) : Ct l G yX12_goThrough cX12_goThrough 10 none rmX12_goThrough [.ref (qM 0), .int a0, .int a1, .int a2, .int a3, .int a4, .int a5] (wdM G qM sM) none (wdM G qM out) := by
  refine zMet (own := RX12) rfl (by decide) (Nat.le_of_ble_eq_true rfl) (fun x hl C O => ?_)
  show zW x G 0 0 0 [(0, .ref (qM 0)), (1, .int a0), (2, .int a1), (3, .int a2), (4, .int a3), (5, .int a4), (6, .int a5)] [] _
  unfold fM_goThrough at h
  refine z_aload_n C dX12_goThrough_0 0 rfl ?_
  refine z_iconst C 0 dX12_goThrough_1 (by decide) ?_
  refine rw_p_X12_288_M_M C dX12_goThrough_2 h (fun sM1 h => ?_)
  refine z_aload_n C dX12_goThrough_5 0 rfl ?_
  refine z_iconst C 0 dX12_goThrough_6 (by decide) ?_
  refine rw_p_X12_297_M_M C dX12_goThrough_7 h (fun sM2 h => ?_)
  refine z_aload_n C dX12_goThrough_10 0 rfl ?_
  refine z_iconst C 0 dX12_goThrough_11 (by decide) ?_
  refine rw_p_X12_294_M_M C dX12_goThrough_12 h (fun sM3 h => ?_)
  refine z_iconst C 0 dX12_goThrough_15 (by decide) ?_
  refine z_istore C dX12_goThrough_16 (by decide) (lvr := [(0, .ref (qM 0)), (1, .int a0), (2, .int a1), (3, .int a2), (4, .int a3), (5, .int a4), (6, .int a5)]) rfl ?_
  refine z_perm [1, 2, 3, 4, 5, 6, 7, 0] (lv' := [(0, .ref (qM 0)), (1, .int a0), (2, .int a1), (3, .int a2), (4, .int a3), (5, .int a4), (6, .int a5), (7, .int 0)]) rfl ?_
  exact kM_goThrough_l18 C O  zF h
set_option maxHeartbeats 4000000 in
set_option maxRecDepth 100000 in
theorem cM_goAll {l : Launch} {G : zG} {qM : Nat → Nat} {sM : zSt}  {out : zSt} (h : fM_goAll sM  = some out) : Ct l G yX12_goAll cX12_goAll 1 none rmX12_goAll [.ref (qM 0)] (wdM G qM sM) none (wdM G qM out) := by
  refine zMet (own := RX12) rfl (by decide) (Nat.le_of_ble_eq_true rfl) (fun x hl C O => ?_)
  show zW x G 0 0 0 [(0, .ref (qM 0))] [] _
  unfold fM_goAll at h
  refine z_aload_n C dX12_goAll_0 0 rfl ?_
  refine z_sipush C 999 dX12_goAll_1 (by decide) ?_
  refine z_iconst C (-1) dX12_goAll_4 (by decide) ?_
  refine z_iconst C (-1) dX12_goAll_5 (by decide) ?_
  refine z_iconst C (-1) dX12_goAll_6 (by decide) ?_
  refine z_iconst C (-1) dX12_goAll_7 (by decide) ?_
  refine z_iconst C (-1) dX12_goAll_8 (by decide) ?_
  obtain ⟨y1, hy1, h⟩ := bind_o h
  refine rw_c_X12_316 C (cM_goThrough hy1) 0 rfl dX12_goAll_9 (Nat.le_of_ble_eq_true rfl) (zrm rfl) ?_
  replace h := Option.some.inj h
  subst h
  exact z_vret C O dX12_goAll_12 rfl rfl
set_option maxHeartbeats 4000000 in
set_option maxRecDepth 100000 in
theorem cM_isThing {l : Launch} {G : zG} {qM : Nat → Nat} {sM : zSt} {a0 : Int32} {out : Bool} (h : fM_isThing sM a0 = some out) : Ct l G yX12_isThing cX12_isThing 2 (some .boolean) rmX12_isThing [.ref (qM 0), .int a0] (wdM G qM sM) (some (.int (zb out))) (wdM G qM sM) := by
  refine zMet (own := RX12) rfl (by decide) (Nat.le_of_ble_eq_true rfl) (fun x hl C O => ?_)
  show zW x G 0 0 0 [(0, .ref (qM 0)), (1, .int a0)] [] _
  unfold fM_isThing at h
  refine z_iload_n C dX12_isThing_0 1 rfl ?_
  refine z_i2l C dX12_isThing_1 ?_
  refine z_lconst C 0 dX12_isThing_2 (by decide) ?_
  refine z_aload_n C dX12_isThing_3 0 rfl ?_
  refine rw_g_X12_285_M_M C dX12_isThing_4 ?_
  refine z_iconst C 1 dX12_isThing_7 (by decide) ?_
  refine z_isub C dX12_isThing_8 ?_
  refine z_i2l C dX12_isThing_9 ?_
  obtain ⟨y1, hy1, h⟩ := bind_o h
  refine rw_c_X12_118 C (Ct.frame0 (cM_in hy1)) dX12_isThing_10 (Nat.le_of_ble_eq_true rfl) (zrm rfl) ?_
  replace h := Option.some.inj h
  subst h
  exact z_zret C O dX12_isThing_13 (zb_nar y1) rfl rfl
set_option maxHeartbeats 4000000 in
set_option maxRecDepth 100000 in
theorem cM_whose {l : Launch} {G : zG} {qM : Nat → Nat} {sM : zSt} {a0 : Int32} {a1 : Int32} {out : Int64 × zSt} (h : fM_whose sM a0 a1 = some out) : Ct l G yX12_whose cX12_whose 3 (some .long) rmX12_whose [.ref (qM 0), .int a0, .int a1] (wdM G qM sM) (some (.long out.1)) (wdM G qM out.2) := by
  refine zMet (own := RX12) rfl (by decide) (Nat.le_of_ble_eq_true rfl) (fun x hl C O => ?_)
  show zW x G 0 0 0 [(0, .ref (qM 0)), (1, .int a0), (2, .int a1)] [] _
  unfold fM_whose at h
  refine z_aload_n C dX12_whose_0 0 rfl ?_
  refine z_iconst C 0 dX12_whose_1 (by decide) ?_
  refine rw_p_X12_107_M_M C dX12_whose_2 h (fun sM1 h => ?_)
  refine z_aload_n C dX12_whose_5 0 rfl ?_
  refine z_iload_n C dX12_whose_6 1 rfl ?_
  obtain ⟨y2, hy2, h⟩ := bind_o h
  refine rw_c_X12_320 C (cM_isThing hy2) 0 rfl dX12_whose_7 (Nat.le_of_ble_eq_true rfl) (zrm rfl) ?_
  refine z_ifb_eq C dX12_whose_10 25 (by decide) h (fun h => ?_) (fun h => ?_)
  · refine z_ldc2 C rw_u_1138 dX12_whose_25 ?_
    replace h := Option.some.inj h
    subst h
    exact z_lret C O dX12_whose_28 rfl rfl
  · refine z_iload_n C dX12_whose_13 2 rfl ?_
    refine z_i2l C dX12_whose_14 ?_
    refine z_lconst C 0 dX12_whose_15 (by decide) ?_
    refine z_ldc2 C rw_u_1258 dX12_whose_16 ?_
    obtain ⟨y3, hy3, h⟩ := bind_o h
    refine rw_c_X12_118 C (Ct.frame0 (cM_in hy3)) dX12_whose_19 (Nat.le_of_ble_eq_true rfl) (zrm rfl) ?_
    refine z_ifb_ne C dX12_whose_22 29 (by decide) h (fun h => ?_) (fun h => ?_)
    · refine z_aload_n C dX12_whose_29 0 rfl ?_
      refine z_iload_n C dX12_whose_30 2 rfl ?_
      refine z_iconst C (-1) dX12_whose_31 (by decide) ?_
      refine z_iconst C (-1) dX12_whose_32 (by decide) ?_
      refine z_iconst C (-1) dX12_whose_33 (by decide) ?_
      refine z_iconst C (-1) dX12_whose_34 (by decide) ?_
      refine z_iconst C (-1) dX12_whose_35 (by decide) ?_
      obtain ⟨y4, hy4, h⟩ := bind_o h
      refine rw_c_X12_316 C (cM_goThrough hy4) 0 rfl dX12_whose_36 (Nat.le_of_ble_eq_true rfl) (zrm rfl) ?_
      refine z_iload_n C dX12_whose_39 1 rfl ?_
      refine z_aload_n C dX12_whose_40 0 rfl ?_
      refine rw_g_X12_297_M_M C dX12_whose_41 ?_
      refine z_icmp_ge C dX12_whose_44 57 (by decide) h (fun h => ?_) (fun h => ?_)
      · refine z_ldc2 C rw_u_1287 dX12_whose_57 ?_
        replace h := Option.some.inj h
        subst h
        exact z_lret C O dX12_whose_60 rfl rfl
      · refine z_aload_n C dX12_whose_47 0 rfl ?_
        refine rw_g_X12_37_M_M C dX12_whose_48 ?_
        refine z_iload_n C dX12_whose_51 1 rfl ?_
        refine rw_l_M_M_29 C dX12_whose_52 h (fun h => ?_)
        refine z_i2l C dX12_whose_53 ?_
        refine z_goto C dX12_whose_54 60 (by decide) ?_
        replace h := Option.some.inj h
        subst h
        exact z_lret C O dX12_whose_60 rfl rfl
    · refine z_ldc2 C rw_u_1138 dX12_whose_25 ?_
      replace h := Option.some.inj h
      subst h
      exact z_lret C O dX12_whose_28 rfl rfl
set_option maxHeartbeats 4000000 in
set_option maxRecDepth 100000 in
theorem kM_putsInto_l4b {x : zX} {G : zG} {qM : Nat → Nat} {sM : zSt} {out : Int32} (C : zC x G RX12 cX12_putsInto 4 (some .int) rmX12_putsInto) (O : zO x G (some (.int out)) (wdM G qM sM) 0 0) {K4 : zSt → Int32 → Int32 → Int32 → Option (Int32)} (hK4 : ∀  (x1 : Int32) (x2 : Int32) (x3 : Int32), K4 sM x1 x2 x3 = some out → zW x G 0 0 4 [(0, .ref (qM 0)), (1, .int x1), (2, .int x2), (3, .int x3)] [] (wdM G qM sM))  {x1 : Int32} {x2 : Int32} {x3 : Int32} (h : fM_putsInto_l4b K4 sM x1 x2 x3 = some out) : zW x G 0 0 4 [(0, .ref (qM 0)), (1, .int x1), (2, .int x2), (3, .int x3)] [] (wdM G qM sM) := by
  unfold fM_putsInto_l4b at h
  refine z_iload_n C dX12_putsInto_4 3 rfl ?_
  refine z_aload_n C dX12_putsInto_5 0 rfl ?_
  refine rw_g_X12_294_M_M C dX12_putsInto_6 ?_
  refine z_icmp_ge C dX12_putsInto_9 36 (by decide) h (fun h => ?_) (fun h => ?_)
  · refine z_iload_n C dX12_putsInto_36 2 rfl ?_
    replace h := Option.some.inj h
    subst h
    exact z_iret C O dX12_putsInto_37 rfl rfl
  · refine z_iload_n C dX12_putsInto_12 2 rfl ?_
    refine z_aload_n C dX12_putsInto_13 0 rfl ?_
    refine rw_g_X12_70_M_M C dX12_putsInto_14 ?_
    refine z_iload_n C dX12_putsInto_17 3 rfl ?_
    refine rw_l_M_M_41 C dX12_putsInto_18 h (fun h => ?_)
    refine z_iload_n C dX12_putsInto_19 1 rfl ?_
    refine z_icmp_ne C dX12_putsInto_20 27 (by decide) h (fun h => ?_) (fun h => ?_)
    · refine z_iconst C 0 dX12_putsInto_27 (by decide) ?_
      refine z_iadd C dX12_putsInto_28 ?_
      refine z_istore_nN C dX12_putsInto_29 (by decide) (lvr := [(0, .ref (qM 0)), (1, .int x1), (3, .int x3)]) rfl h (fun x2_1 h => ?_)
      refine z_iinc C dX12_putsInto_30 3 rfl 1 (by decide) (by decide) (lvr := [(2, .int x2_1), (0, .ref (qM 0)), (1, .int x1)]) rfl h (fun x3_2 h => ?_)
      refine z_goto C dX12_putsInto_33 4 (by decide) ?_
      refine z_perm [2, 3, 1, 0] (lv' := [(0, .ref (qM 0)), (1, .int x1), (2, .int x2_1), (3, .int x3_2)]) rfl ?_
      exact hK4   _ _ _ h
    · refine z_iconst C 1 dX12_putsInto_23 (by decide) ?_
      refine z_goto C dX12_putsInto_24 28 (by decide) ?_
      refine z_iadd C dX12_putsInto_28 ?_
      refine z_istore_nN C dX12_putsInto_29 (by decide) (lvr := [(0, .ref (qM 0)), (1, .int x1), (3, .int x3)]) rfl h (fun x2_3 h => ?_)
      refine z_iinc C dX12_putsInto_30 3 rfl 1 (by decide) (by decide) (lvr := [(2, .int x2_3), (0, .ref (qM 0)), (1, .int x1)]) rfl h (fun x3_4 h => ?_)
      refine z_goto C dX12_putsInto_33 4 (by decide) ?_
      refine z_perm [2, 3, 1, 0] (lv' := [(0, .ref (qM 0)), (1, .int x1), (2, .int x2_3), (3, .int x3_4)]) rfl ?_
      exact hK4   _ _ _ h
set_option maxHeartbeats 4000000 in
set_option maxRecDepth 100000 in
theorem kM_putsInto_l4 {x : zX} {G : zG} {qM : Nat → Nat} {sM : zSt} {out : Int32} (C : zC x G RX12 cX12_putsInto 4 (some .int) rmX12_putsInto) (O : zO x G (some (.int out)) (wdM G qM sM) 0 0)  : ∀ (n : Nat)  {x1 : Int32} {x2 : Int32} {x3 : Int32}, fM_putsInto_l4  n sM x1 x2 x3 = some out → zW x G 0 0 4 [(0, .ref (qM 0)), (1, .int x1), (2, .int x2), (3, .int x3)] [] (wdM G qM sM) := by
  intro n
  induction n with
  | zero =>
    intro  x1 x2 x3 h
    have h : (none : Option (Int32)) = some out := h
    cases h
  | succ n ih =>
    intro  x1 x2 x3 h
    exact kM_putsInto_l4b C O (K4 := fun v0 v1 v2 v3 => fM_putsInto_l4  n v0 v1 v2 v3) (fun  x1 x2 x3 h => ih h) h
set_option maxHeartbeats 4000000 in
set_option maxRecDepth 100000 in
theorem cM_putsInto {l : Launch} {G : zG} {qM : Nat → Nat} {sM : zSt} {a0 : Int32} {out : Int32} (h : fM_putsInto sM a0 = some out) : Ct l G yX12_putsInto cX12_putsInto 4 (some .int) rmX12_putsInto [.ref (qM 0), .int a0] (wdM G qM sM) (some (.int out)) (wdM G qM sM) := by
  refine zMet (own := RX12) rfl (by decide) (Nat.le_of_ble_eq_true rfl) (fun x hl C O => ?_)
  show zW x G 0 0 0 [(0, .ref (qM 0)), (1, .int a0)] [] _
  unfold fM_putsInto at h
  refine z_iconst C 0 dX12_putsInto_0 (by decide) ?_
  refine z_istore_n C dX12_putsInto_1 (by decide) (lvr := [(0, .ref (qM 0)), (1, .int a0)]) rfl ?_
  refine z_iconst C 0 dX12_putsInto_2 (by decide) ?_
  refine z_istore_n C dX12_putsInto_3 (by decide) (lvr := [(2, .int 0), (0, .ref (qM 0)), (1, .int a0)]) rfl ?_
  refine z_perm [2, 3, 1, 0] (lv' := [(0, .ref (qM 0)), (1, .int a0), (2, .int 0), (3, .int 0)]) rfl ?_
  exact kM_putsInto_l4 C O  zF h
set_option maxHeartbeats 4000000 in
set_option maxRecDepth 100000 in
theorem cM_thing {l : Launch} {G : zG} {qM : Nat → Nat} {sM : zSt} {a0 : Int32} {a1 : Int32} {out : Int64 × zSt} (h : fM_thing sM a0 a1 = some out) : Ct l G yX12_thing cX12_thing 3 (some .long) rmX12_thing [.ref (qM 0), .int a0, .int a1] (wdM G qM sM) (some (.long out.1)) (wdM G qM out.2) := by
  refine zMet (own := RX12) rfl (by decide) (Nat.le_of_ble_eq_true rfl) (fun x hl C O => ?_)
  show zW x G 0 0 0 [(0, .ref (qM 0)), (1, .int a0), (2, .int a1)] [] _
  unfold fM_thing at h
  refine z_aload_n C dX12_thing_0 0 rfl ?_
  refine z_iconst C 0 dX12_thing_1 (by decide) ?_
  refine rw_p_X12_107_M_M C dX12_thing_2 h (fun sM1 h => ?_)
  refine z_aload_n C dX12_thing_5 0 rfl ?_
  refine z_iload_n C dX12_thing_6 1 rfl ?_
  obtain ⟨y2, hy2, h⟩ := bind_o h
  refine rw_c_X12_320 C (cM_isThing hy2) 0 rfl dX12_thing_7 (Nat.le_of_ble_eq_true rfl) (zrm rfl) ?_
  refine z_ifb_eq C dX12_thing_10 25 (by decide) h (fun h => ?_) (fun h => ?_)
  · refine z_ldc2 C rw_u_1138 dX12_thing_25 ?_
    replace h := Option.some.inj h
    subst h
    exact z_lret C O dX12_thing_28 rfl rfl
  · refine z_iload_n C dX12_thing_13 2 rfl ?_
    refine z_i2l C dX12_thing_14 ?_
    refine z_lconst C 0 dX12_thing_15 (by decide) ?_
    refine z_ldc2 C rw_u_1292 dX12_thing_16 ?_
    obtain ⟨y3, hy3, h⟩ := bind_o h
    refine rw_c_X12_118 C (Ct.frame0 (cM_in hy3)) dX12_thing_19 (Nat.le_of_ble_eq_true rfl) (zrm rfl) ?_
    refine z_ifb_ne C dX12_thing_22 29 (by decide) h (fun h => ?_) (fun h => ?_)
    · refine z_aload_n C dX12_thing_29 0 rfl ?_
      obtain ⟨y4, hy4, h⟩ := bind_o h
      refine rw_c_X12_329 C (cM_goAll hy4) 0 rfl dX12_thing_30 (Nat.le_of_ble_eq_true rfl) (zrm rfl) ?_
      refine z_iload_n C dX12_thing_33 2 rfl ?_
      by_cases hc0 : a1 = 0
      · refine z_tcase (off := 38) C dX12_thing_34 0 hc0 (by decide) (by decide) (by decide) 72 (by decide) ?_
        replace h := zite_t h hc0
        refine z_aload_n C dX12_thing_72 0 rfl ?_
        refine rw_g_X12_37_M_M C dX12_thing_73 ?_
        refine z_iload_n C dX12_thing_76 1 rfl ?_
        refine rw_l_M_M_29 C dX12_thing_77 h (fun h => ?_)
        refine z_i2l C dX12_thing_78 ?_
        replace h := Option.some.inj h
        subst h
        exact z_lret C O dX12_thing_79 rfl rfl
      · replace h := zite_f h hc0
        by_cases hc1 : a1 = 1
        · refine z_tcase (off := 46) C dX12_thing_34 1 hc1 (by decide) (by decide) (by decide) 80 (by decide) ?_
          replace h := zite_t h hc1
          refine z_aload_n C dX12_thing_80 0 rfl ?_
          refine rw_g_X12_43_M_M C dX12_thing_81 ?_
          refine z_iload_n C dX12_thing_84 1 rfl ?_
          refine rw_l_M_M_31 C dX12_thing_85 h (fun h => ?_)
          refine z_i2l C dX12_thing_86 ?_
          replace h := Option.some.inj h
          subst h
          exact z_lret C O dX12_thing_87 rfl rfl
        · replace h := zite_f h hc1
          by_cases hc2 : a1 = 2
          · refine z_tcase (off := 54) C dX12_thing_34 2 hc2 (by decide) (by decide) (by decide) 88 (by decide) ?_
            replace h := zite_t h hc2
            refine z_aload_n C dX12_thing_88 0 rfl ?_
            refine rw_g_X12_46_M_M C dX12_thing_89 ?_
            refine z_iload_n C dX12_thing_92 1 rfl ?_
            refine rw_l_M_M_32 C dX12_thing_93 h (fun h => ?_)
            refine z_i2l C dX12_thing_94 ?_
            replace h := Option.some.inj h
            subst h
            exact z_lret C O dX12_thing_95 rfl rfl
          · replace h := zite_f h hc2
            by_cases hc3 : a1 = 3
            · refine z_tcase (off := 62) C dX12_thing_34 3 hc3 (by decide) (by decide) (by decide) 96 (by decide) ?_
              replace h := zite_t h hc3
              refine z_aload_n C dX12_thing_96 0 rfl ?_
              refine rw_g_X12_49_M_M C dX12_thing_97 ?_
              refine z_iload_n C dX12_thing_100 1 rfl ?_
              refine rw_l_M_M_33 C dX12_thing_101 h (fun h => ?_)
              refine z_i2l C dX12_thing_102 ?_
              replace h := Option.some.inj h
              subst h
              exact z_lret C O dX12_thing_103 rfl rfl
            · replace h := zite_f h hc3
              by_cases hc4 : a1 = 4
              · refine z_tcase (off := 70) C dX12_thing_34 4 hc4 (by decide) (by decide) (by decide) 104 (by decide) ?_
                replace h := zite_t h hc4
                refine z_aload_n C dX12_thing_104 0 rfl ?_
                refine rw_g_X12_52_M_M C dX12_thing_105 ?_
                refine z_iload_n C dX12_thing_108 1 rfl ?_
                refine rw_l_M_M_34 C dX12_thing_109 h (fun h => ?_)
                refine z_i2l C dX12_thing_110 ?_
                replace h := Option.some.inj h
                subst h
                exact z_lret C O dX12_thing_111 rfl rfl
              · replace h := zite_f h hc4
                by_cases hc5 : a1 = 5
                · refine z_tcase (off := 78) C dX12_thing_34 5 hc5 (by decide) (by decide) (by decide) 112 (by decide) ?_
                  replace h := zite_t h hc5
                  refine z_aload_n C dX12_thing_112 0 rfl ?_
                  refine z_iload_n C dX12_thing_113 1 rfl ?_
                  obtain ⟨y5, hy5, h⟩ := bind_o h
                  refine rw_c_X12_332 C (cM_putsInto hy5) 0 rfl dX12_thing_114 (Nat.le_of_ble_eq_true rfl) (zrm rfl) ?_
                  refine z_i2l C dX12_thing_117 ?_
                  replace h := Option.some.inj h
                  subst h
                  exact z_lret C O dX12_thing_118 rfl rfl
                · replace h := zite_f h hc5
                  refine z_tout C dX12_thing_34 (ztoutL 6 (by decide) (by intro k hk; match k, hk with | 0, _ => exact hc0 | 1, _ => exact hc1 | 2, _ => exact hc2 | 3, _ => exact hc3 | 4, _ => exact hc4 | 5, _ => exact hc5 | k + 6, hk => exact absurd hk (by omega))) 119 (by decide) ?_
                  refine z_aload_n C dX12_thing_119 0 rfl ?_
                  refine rw_g_X12_61_M_M C dX12_thing_120 ?_
                  refine z_iload_n C dX12_thing_123 1 rfl ?_
                  refine rw_l_M_M_37 C dX12_thing_124 h (fun h => ?_)
                  refine z_i2l C dX12_thing_125 ?_
                  replace h := Option.some.inj h
                  subst h
                  exact z_lret C O dX12_thing_126 rfl rfl
    · refine z_ldc2 C rw_u_1138 dX12_thing_25 ?_
      replace h := Option.some.inj h
      subst h
      exact z_lret C O dX12_thing_28 rfl rfl
set_option maxHeartbeats 4000000 in
set_option maxRecDepth 100000 in
theorem kM_judge_l126b {x : zX} {G : zG} {qM : Nat → Nat}  {out : Int64 × zSt} (C : zC x G RX12 cX12_judge 4 (some .long) rmX12_judge) (O : zO x G (some (.long out.1)) (wdM G qM out.2) 0 0) {K126 : zSt → Int32 → Int32 → Int32 → Option (Int64 × zSt)} (hK126 : ∀ (sM : zSt) (x1 : Int32) (x2 : Int32) (x3 : Int32), K126 sM x1 x2 x3 = some out → zW x G 0 0 126 [(0, .ref (qM 0)), (1, .int x1), (2, .int x2), (3, .int x3)] [] (wdM G qM sM)) {sM : zSt} {x1 : Int32} {x2 : Int32} {x3 : Int32} (h : fM_judge_l126b K126 sM x1 x2 x3 = some out) : zW x G 0 0 126 [(0, .ref (qM 0)), (1, .int x1), (2, .int x2), (3, .int x3)] [] (wdM G qM sM) := by
  unfold fM_judge_l126b at h
  refine z_iload_n C dX12_judge_126 3 rfl ?_
  refine z_aload_n C dX12_judge_127 0 rfl ?_
  refine rw_g_X12_285_M_M C dX12_judge_128 ?_
  refine z_icmp_ge C dX12_judge_131 165 (by decide) h (fun h => ?_) (fun h => ?_)
  · refine z_ldc2 C rw_u_1287 dX12_judge_165 ?_
    replace h := Option.some.inj h
    subst h
    exact z_lret C O dX12_judge_168 rfl rfl
  · refine z_aload_n C dX12_judge_134 0 rfl ?_
    refine rw_g_X12_37_M_M C dX12_judge_135 ?_
    refine z_iload_n C dX12_judge_138 3 rfl ?_
    refine rw_l_M_M_29 C dX12_judge_139 h (fun h => ?_)
    refine z_aload_n C dX12_judge_140 0 rfl ?_
    refine rw_g_X12_16_M_M C dX12_judge_141 ?_
    refine z_bipush C 40 dX12_judge_144 (by decide) ?_
    refine z_iload_n C dX12_judge_146 1 rfl ?_
    refine z_imul C dX12_judge_147 ?_
    refine z_iload_n C dX12_judge_148 2 rfl ?_
    refine z_iadd C dX12_judge_149 ?_
    refine z_iload_n C dX12_judge_150 3 rfl ?_
    refine z_iadd C dX12_judge_151 ?_
    refine rw_l_M_M_4 C dX12_judge_152 h (fun h => ?_)
    refine z_icmp_eq C dX12_judge_153 159 (by decide) h (fun h => ?_) (fun h => ?_)
    · refine z_iinc C dX12_judge_159 3 rfl 1 (by decide) (by decide) (lvr := [(0, .ref (qM 0)), (1, .int x1), (2, .int x2)]) rfl h (fun x3_6 h => ?_)
      refine z_goto C dX12_judge_162 126 (by decide) ?_
      refine z_perm [1, 2, 3, 0] (lv' := [(0, .ref (qM 0)), (1, .int x1), (2, .int x2), (3, .int x3_6)]) rfl ?_
      exact hK126 _  _ _ _ h
    · refine z_iload_n C dX12_judge_156 3 rfl ?_
      refine z_i2l C dX12_judge_157 ?_
      replace h := Option.some.inj h
      subst h
      exact z_lret C O dX12_judge_158 rfl rfl
set_option maxHeartbeats 4000000 in
set_option maxRecDepth 100000 in
theorem kM_judge_l126 {x : zX} {G : zG} {qM : Nat → Nat}  {out : Int64 × zSt} (C : zC x G RX12 cX12_judge 4 (some .long) rmX12_judge) (O : zO x G (some (.long out.1)) (wdM G qM out.2) 0 0)  : ∀ (n : Nat) {sM : zSt} {x1 : Int32} {x2 : Int32} {x3 : Int32}, fM_judge_l126  n sM x1 x2 x3 = some out → zW x G 0 0 126 [(0, .ref (qM 0)), (1, .int x1), (2, .int x2), (3, .int x3)] [] (wdM G qM sM) := by
  intro n
  induction n with
  | zero =>
    intro sM x1 x2 x3 h
    have h : (none : Option (Int64 × zSt)) = some out := h
    cases h
  | succ n ih =>
    intro sM x1 x2 x3 h
    exact kM_judge_l126b C O (K126 := fun v0 v1 v2 v3 => fM_judge_l126  n v0 v1 v2 v3) (fun sM x1 x2 x3 h => ih h) h
set_option maxHeartbeats 4000000 in
set_option maxRecDepth 100000 in
theorem kM_judge_l73b {x : zX} {G : zG} {qM : Nat → Nat}  {out : Int64 × zSt} (C : zC x G RX12 cX12_judge 4 (some .long) rmX12_judge) (O : zO x G (some (.long out.1)) (wdM G qM out.2) 0 0) {K73 : zSt → Int32 → Int32 → Int32 → Option (Int64 × zSt)} (hK73 : ∀ (sM : zSt) (x1 : Int32) (x2 : Int32) (x3 : Int32), K73 sM x1 x2 x3 = some out → zW x G 0 0 73 [(0, .ref (qM 0)), (1, .int x1), (2, .int x2), (3, .int x3)] [] (wdM G qM sM)) {sM : zSt} {x1 : Int32} {x2 : Int32} {x3 : Int32} (h : fM_judge_l73b K73 sM x1 x2 x3 = some out) : zW x G 0 0 73 [(0, .ref (qM 0)), (1, .int x1), (2, .int x2), (3, .int x3)] [] (wdM G qM sM) := by
  unfold fM_judge_l73b at h
  refine z_iload_n C dX12_judge_73 3 rfl ?_
  refine z_aload_n C dX12_judge_74 0 rfl ?_
  refine rw_g_X12_285_M_M C dX12_judge_75 ?_
  refine z_icmp_ge C dX12_judge_78 115 (by decide) h (fun h => ?_) (fun h => ?_)
  · refine z_aload_n C dX12_judge_115 0 rfl ?_
    refine z_iconst C 0 dX12_judge_116 (by decide) ?_
    refine rw_p_X12_111_M_M C dX12_judge_117 h (fun sM4 h => ?_)
    refine z_aload_n C dX12_judge_120 0 rfl ?_
    obtain ⟨y5, hy5, h⟩ := bind_o h
    refine rw_c_X12_329 C (cM_goAll hy5) 0 rfl dX12_judge_121 (Nat.le_of_ble_eq_true rfl) (zrm rfl) ?_
    refine z_iconst C 0 dX12_judge_124 (by decide) ?_
    refine z_istore_n C dX12_judge_125 (by decide) (lvr := [(0, .ref (qM 0)), (1, .int x1), (2, .int x2)]) rfl ?_
    refine z_perm [1, 2, 3, 0] (lv' := [(0, .ref (qM 0)), (1, .int x1), (2, .int x2), (3, .int 0)]) rfl ?_
    exact kM_judge_l126 C O  zF h
  · refine z_aload_n C dX12_judge_81 0 rfl ?_
    refine rw_g_X12_16_M_M C dX12_judge_82 ?_
    refine z_bipush C 40 dX12_judge_85 (by decide) ?_
    refine z_iload_n C dX12_judge_87 1 rfl ?_
    refine z_imul C dX12_judge_88 ?_
    refine z_iload_n C dX12_judge_89 2 rfl ?_
    refine z_iadd C dX12_judge_90 ?_
    refine z_iload_n C dX12_judge_91 3 rfl ?_
    refine z_iadd C dX12_judge_92 ?_
    refine rw_l_M_M_4 C dX12_judge_93 h (fun h => ?_)
    refine z_i2l C dX12_judge_94 ?_
    refine z_lconst C 0 dX12_judge_95 (by decide) ?_
    refine z_ldc2 C rw_u_1137 dX12_judge_96 ?_
    obtain ⟨y7, hy7, h⟩ := bind_o h
    refine rw_c_X12_118 C (Ct.frame0 (cM_in hy7)) dX12_judge_99 (Nat.le_of_ble_eq_true rfl) (zrm rfl) ?_
    refine z_ifb_ne C dX12_judge_102 109 (by decide) h (fun h => ?_) (fun h => ?_)
    · refine z_iinc C dX12_judge_109 3 rfl 1 (by decide) (by decide) (lvr := [(0, .ref (qM 0)), (1, .int x1), (2, .int x2)]) rfl h (fun x3_8 h => ?_)
      refine z_goto C dX12_judge_112 73 (by decide) ?_
      refine z_perm [1, 2, 3, 0] (lv' := [(0, .ref (qM 0)), (1, .int x1), (2, .int x2), (3, .int x3_8)]) rfl ?_
      exact hK73 _  _ _ _ h
    · refine z_ldc2 C rw_u_1138 dX12_judge_105 ?_
      replace h := Option.some.inj h
      subst h
      exact z_lret C O dX12_judge_108 rfl rfl
set_option maxHeartbeats 4000000 in
set_option maxRecDepth 100000 in
theorem kM_judge_l73 {x : zX} {G : zG} {qM : Nat → Nat}  {out : Int64 × zSt} (C : zC x G RX12 cX12_judge 4 (some .long) rmX12_judge) (O : zO x G (some (.long out.1)) (wdM G qM out.2) 0 0)  : ∀ (n : Nat) {sM : zSt} {x1 : Int32} {x2 : Int32} {x3 : Int32}, fM_judge_l73  n sM x1 x2 x3 = some out → zW x G 0 0 73 [(0, .ref (qM 0)), (1, .int x1), (2, .int x2), (3, .int x3)] [] (wdM G qM sM) := by
  intro n
  induction n with
  | zero =>
    intro sM x1 x2 x3 h
    have h : (none : Option (Int64 × zSt)) = some out := h
    cases h
  | succ n ih =>
    intro sM x1 x2 x3 h
    exact kM_judge_l73b C O (K73 := fun v0 v1 v2 v3 => fM_judge_l73  n v0 v1 v2 v3) (fun sM x1 x2 x3 h => ih h) h
set_option maxHeartbeats 4000000 in
set_option maxRecDepth 100000 in
theorem cM_judge {l : Launch} {G : zG} {qM : Nat → Nat} {sM : zSt} {a0 : Int32} {a1 : Int32} {out : Int64 × zSt} (h : fM_judge sM a0 a1 = some out) : Ct l G yX12_judge cX12_judge 4 (some .long) rmX12_judge [.ref (qM 0), .int a0, .int a1] (wdM G qM sM) (some (.long out.1)) (wdM G qM out.2) := by
  refine zMet (own := RX12) rfl (by decide) (Nat.le_of_ble_eq_true rfl) (fun x hl C O => ?_)
  show zW x G 0 0 0 [(0, .ref (qM 0)), (1, .int a0), (2, .int a1)] [] _
  unfold fM_judge at h
  refine z_aload_n C dX12_judge_0 0 rfl ?_
  refine z_iconst C 0 dX12_judge_1 (by decide) ?_
  refine rw_p_X12_107_M_M C dX12_judge_2 h (fun sM1 h => ?_)
  refine z_iload_n C dX12_judge_5 1 rfl ?_
  obtain ⟨y2, hy2, h⟩ := bind_o h
  refine rw_c_X12_122 C (Ct.frame0 (cM_isRow hy2)) dX12_judge_6 (Nat.le_of_ble_eq_true rfl) (zrm rfl) ?_
  refine z_ifb_ne C dX12_judge_9 16 (by decide) h (fun h => ?_) (fun h => ?_)
  · refine z_aload_n C dX12_judge_16 0 rfl ?_
    refine rw_g_X12_275_M_M C dX12_judge_17 ?_
    refine z_if_ne C dX12_judge_20 27 (by decide) h (fun h => ?_) (fun h => ?_)
    · refine z_aload_n C dX12_judge_27 0 rfl ?_
      refine rw_g_X12_9_M_M C dX12_judge_28 ?_
      refine z_iload_n C dX12_judge_31 1 rfl ?_
      refine rw_l_M_M_2 C dX12_judge_32 h (fun h => ?_)
      refine z_if_ge C dX12_judge_33 42 (by decide) h (fun h => ?_) (fun h => ?_)
      · refine z_iload_n C dX12_judge_42 2 rfl ?_
        refine z_if_lt C dX12_judge_43 65 (by decide) h (fun h => ?_) (fun h => ?_)
        · refine z_aload_n C dX12_judge_65 0 rfl ?_
          refine z_iconst C 2 dX12_judge_66 (by decide) ?_
          obtain ⟨y3, hy3, h⟩ := bind_o h
          refine rw_c_X12_130 C (cM_finding hy3) 0 rfl dX12_judge_67 (Nat.le_of_ble_eq_true rfl) (zrm rfl) ?_
          replace h := Option.some.inj h
          subst h
          exact z_lret C O dX12_judge_70 rfl rfl
        · refine z_iload_n C dX12_judge_46 2 rfl ?_
          refine z_i2l C dX12_judge_47 ?_
          refine z_aload_n C dX12_judge_48 0 rfl ?_
          refine rw_g_X12_285_M_M C dX12_judge_49 ?_
          refine z_i2l C dX12_judge_52 ?_
          refine z_ladd C dX12_judge_53 ?_
          refine z_aload_n C dX12_judge_54 0 rfl ?_
          refine rw_g_X12_13_M_M C dX12_judge_55 ?_
          refine z_iload_n C dX12_judge_58 1 rfl ?_
          refine rw_l_M_M_3 C dX12_judge_59 h (fun h => ?_)
          refine z_i2l C dX12_judge_60 ?_
          refine z_lcmp_le C dX12_judge_61 dX12_judge_62 71 (by decide) h (fun h => ?_) (fun h => ?_)
          · refine z_iconst C 0 dX12_judge_71 (by decide) ?_
            refine z_istore_n C dX12_judge_72 (by decide) (lvr := [(0, .ref (qM 0)), (1, .int a0), (2, .int a1)]) rfl ?_
            refine z_perm [1, 2, 3, 0] (lv' := [(0, .ref (qM 0)), (1, .int a0), (2, .int a1), (3, .int 0)]) rfl ?_
            exact kM_judge_l73 C O  zF h
          · refine z_aload_n C dX12_judge_65 0 rfl ?_
            refine z_iconst C 2 dX12_judge_66 (by decide) ?_
            obtain ⟨y9, hy9, h⟩ := bind_o h
            refine rw_c_X12_130 C (cM_finding hy9) 0 rfl dX12_judge_67 (Nat.le_of_ble_eq_true rfl) (zrm rfl) ?_
            replace h := Option.some.inj h
            subst h
            exact z_lret C O dX12_judge_70 rfl rfl
      · refine z_aload_n C dX12_judge_36 0 rfl ?_
        refine z_iconst C 1 dX12_judge_37 (by decide) ?_
        obtain ⟨y10, hy10, h⟩ := bind_o h
        refine rw_c_X12_130 C (cM_finding hy10) 0 rfl dX12_judge_38 (Nat.le_of_ble_eq_true rfl) (zrm rfl) ?_
        replace h := Option.some.inj h
        subst h
        exact z_lret C O dX12_judge_41 rfl rfl
    · refine z_ldc2 C rw_u_1305 dX12_judge_23 ?_
      replace h := Option.some.inj h
      subst h
      exact z_lret C O dX12_judge_26 rfl rfl
  · refine z_ldc2 C rw_u_1138 dX12_judge_12 ?_
    replace h := Option.some.inj h
    subst h
    exact z_lret C O dX12_judge_15 rfl rfl
set_option maxHeartbeats 4000000 in
set_option maxRecDepth 100000 in
theorem kM_laySums_b237 {x : zX} {G : zG} {qM : Nat → Nat}  {out : zSt} (C : zC x G RX12 cX12_laySums 7 none rmX12_laySums) (O : zO x G none (wdM G qM out) 0 0) {K137 : zSt → Int32 → Int32 → Option (zSt)} (hK137 : ∀ (sM : zSt) (x1 : Int32) (x2 : Int32), K137 sM x1 x2 = some out → zW x G 0 0 137 [(0, .ref (qM 0)), (1, .int x1), (2, .int x2)] [] (wdM G qM sM)) {sM : zSt} {x1 : Int32} {x2 : Int32} {x3 : Int32} {x4 : Int32} {x5 : Int32} {t0 : Int32} (h : fM_laySums_b237 K137 sM x1 x2 x3 x4 x5 t0 = some out) : zW x G 0 0 237 [(0, .ref (qM 0)), (1, .int x1), (2, .int x2), (3, .int x3), (4, .int x4), (5, .int x5)] [.int t0] (wdM G qM sM) := by
  unfold fM_laySums_b237 at h
  refine z_istore C dX12_laySums_237 (by decide) (lvr := [(0, .ref (qM 0)), (1, .int x1), (2, .int x2), (3, .int x3), (4, .int x4), (5, .int x5)]) rfl ?_
  refine z_aload_n C dX12_laySums_239 1 rfl ?_
  refine rw_g_X12_86_M_M C dX12_laySums_240 ?_
  refine z_iload_n C dX12_laySums_243 4 rfl ?_
  refine z_dup2 C dX12_laySums_244 rfl rfl ?_
  refine rw_l_M_M_46 C dX12_laySums_245 h (fun h => ?_)
  refine z_aload_n C dX12_laySums_246 1 rfl ?_
  refine rw_g_X12_76_M_M C dX12_laySums_247 ?_
  refine z_iload_n C dX12_laySums_250 3 rfl ?_
  refine rw_l_M_M_43 C dX12_laySums_251 h (fun h => ?_)
  refine z_i2l C dX12_laySums_252 ?_
  refine z_ladd C dX12_laySums_253 ?_
  refine rw_s_M_M_46 C dX12_laySums_254 h (fun sM5 h => ?_)
  refine z_aload_n C dX12_laySums_255 1 rfl ?_
  refine rw_g_X12_89_M_M C dX12_laySums_256 ?_
  refine z_iload C dX12_laySums_259 5 rfl ?_
  refine z_dup2 C dX12_laySums_261 rfl rfl ?_
  refine rw_l_M_M_47 C dX12_laySums_262 h (fun h => ?_)
  refine z_aload_n C dX12_laySums_263 1 rfl ?_
  refine rw_g_X12_76_M_M C dX12_laySums_264 ?_
  refine z_iload_n C dX12_laySums_267 3 rfl ?_
  refine rw_l_M_M_43 C dX12_laySums_268 h (fun h => ?_)
  refine z_i2l C dX12_laySums_269 ?_
  refine z_ladd C dX12_laySums_270 ?_
  refine rw_s_M_M_47 C dX12_laySums_271 h (fun sM6 h => ?_)
  refine z_aload_n C dX12_laySums_272 1 rfl ?_
  refine rw_g_X12_92_M_M C dX12_laySums_273 ?_
  refine z_iload C dX12_laySums_276 5 rfl ?_
  refine z_dup2 C dX12_laySums_278 rfl rfl ?_
  refine rw_l_M_M_48 C dX12_laySums_279 h (fun h => ?_)
  refine z_iload C dX12_laySums_280 0 rfl ?_
  refine z_if_eq C dX12_laySums_282 295 (by decide) h (fun h => ?_) (fun h => ?_)
  · refine z_iload C dX12_laySums_295 6 rfl ?_
    refine z_i2l C dX12_laySums_297 ?_
    refine z_ladd C dX12_laySums_298 ?_
    refine rw_s_M_M_48 C dX12_laySums_299 h (fun sM7 h => ?_)
    refine z_iinc C dX12_laySums_300 3 rfl 1 (by decide) (by decide) (lvr := [(6, .int t0), (0, .ref (qM 0)), (1, .int x1), (3, .int x3), (4, .int x4), (5, .int x5)]) rfl h (fun x2_8 h => ?_)
    refine z_goto C dX12_laySums_303 137 (by decide) ?_
    refine z_perm [2, 3, 0] (lv' := [(0, .ref (qM 0)), (1, .int x1), (2, .int x2_8)]) rfl ?_
    exact hK137 _  _ _ h
  · refine z_aload_n C dX12_laySums_285 1 rfl ?_
    refine rw_g_X12_76_M_M C dX12_laySums_286 ?_
    refine z_iload_n C dX12_laySums_289 3 rfl ?_
    refine rw_l_M_M_43 C dX12_laySums_290 h (fun h => ?_)
    refine z_i2l C dX12_laySums_291 ?_
    refine z_goto C dX12_laySums_292 298 (by decide) ?_
    refine z_ladd C dX12_laySums_298 ?_
    refine rw_s_M_M_48 C dX12_laySums_299 h (fun sM9 h => ?_)
    refine z_iinc C dX12_laySums_300 3 rfl 1 (by decide) (by decide) (lvr := [(6, .int t0), (0, .ref (qM 0)), (1, .int x1), (3, .int x3), (4, .int x4), (5, .int x5)]) rfl h (fun x2_10 h => ?_)
    refine z_goto C dX12_laySums_303 137 (by decide) ?_
    refine z_perm [2, 3, 0] (lv' := [(0, .ref (qM 0)), (1, .int x1), (2, .int x2_10)]) rfl ?_
    exact hK137 _  _ _ h
set_option maxHeartbeats 4000000 in
set_option maxRecDepth 100000 in
theorem kM_laySums_b216 {x : zX} {G : zG} {qM : Nat → Nat}  {out : zSt} (C : zC x G RX12 cX12_laySums 7 none rmX12_laySums) (O : zO x G none (wdM G qM out) 0 0) {K137 : zSt → Int32 → Int32 → Option (zSt)} (hK137 : ∀ (sM : zSt) (x1 : Int32) (x2 : Int32), K137 sM x1 x2 = some out → zW x G 0 0 137 [(0, .ref (qM 0)), (1, .int x1), (2, .int x2)] [] (wdM G qM sM)) {sM : zSt} {x1 : Int32} {x2 : Int32} {x3 : Int32} {x4 : Int32} {x5 : Int32} (h : fM_laySums_b216 K137 sM x1 x2 x3 x4 x5 = some out) : zW x G 0 0 216 [(0, .ref (qM 0)), (1, .int x1), (2, .int x2), (3, .int x3), (4, .int x4), (5, .int x5)] [] (wdM G qM sM) := by
  unfold fM_laySums_b216 at h
  refine z_iload_n C dX12_laySums_216 1 rfl ?_
  refine z_iconst C 4 dX12_laySums_217 (by decide) ?_
  refine z_icmp_ne C dX12_laySums_218 236 (by decide) h (fun h => ?_) (fun h => ?_)
  · refine z_iconst C 0 dX12_laySums_236 (by decide) ?_
    exact kM_laySums_b237 C O hK137 h
  · refine z_aload_n C dX12_laySums_221 0 rfl ?_
    refine rw_g_X12_76_M_M C dX12_laySums_222 ?_
    refine z_iload_n C dX12_laySums_225 2 rfl ?_
    refine rw_l_M_M_43 C dX12_laySums_226 h (fun h => ?_)
    refine z_iload C dX12_laySums_227 5 rfl ?_
    refine z_icmp_le C dX12_laySums_229 236 (by decide) h (fun h => ?_) (fun h => ?_)
    · refine z_iconst C 0 dX12_laySums_236 (by decide) ?_
      exact kM_laySums_b237 C O hK137 h
    · refine z_iconst C 1 dX12_laySums_232 (by decide) ?_
      refine z_goto C dX12_laySums_233 237 (by decide) ?_
      exact kM_laySums_b237 C O hK137 h
set_option maxHeartbeats 4000000 in
set_option maxRecDepth 100000 in
theorem kM_laySums_l137b {x : zX} {G : zG} {qM : Nat → Nat}  {out : zSt} (C : zC x G RX12 cX12_laySums 7 none rmX12_laySums) (O : zO x G none (wdM G qM out) 0 0) {K137 : zSt → Int32 → Int32 → Option (zSt)} (hK137 : ∀ (sM : zSt) (x1 : Int32) (x2 : Int32), K137 sM x1 x2 = some out → zW x G 0 0 137 [(0, .ref (qM 0)), (1, .int x1), (2, .int x2)] [] (wdM G qM sM)) {sM : zSt} {x1 : Int32} {x2 : Int32} (h : fM_laySums_l137b K137 sM x1 x2 = some out) : zW x G 0 0 137 [(0, .ref (qM 0)), (1, .int x1), (2, .int x2)] [] (wdM G qM sM) := by
  unfold fM_laySums_l137b at h
  refine z_iload_n C dX12_laySums_137 2 rfl ?_
  refine z_aload_n C dX12_laySums_138 0 rfl ?_
  refine rw_g_X12_294_M_M C dX12_laySums_139 ?_
  refine z_icmp_ge C dX12_laySums_142 306 (by decide) h (fun h => ?_) (fun h => ?_)
  · replace h := Option.some.inj h
    subst h
    exact z_vret C O dX12_laySums_306 rfl rfl
  · refine z_aload_n C dX12_laySums_145 0 rfl ?_
    refine rw_g_X12_37_M_M C dX12_laySums_146 ?_
    refine z_aload_n C dX12_laySums_149 0 rfl ?_
    refine rw_g_X12_70_M_M C dX12_laySums_150 ?_
    refine z_iload_n C dX12_laySums_153 2 rfl ?_
    refine rw_l_M_M_41 C dX12_laySums_154 h (fun h => ?_)
    refine rw_l_M_M_29 C dX12_laySums_155 h (fun h => ?_)
    refine z_istore_nN C dX12_laySums_156 (by decide) (lvr := [(0, .ref (qM 0)), (1, .int x1), (2, .int x2)]) rfl h (fun x3_2 h => ?_)
    refine z_iconst C 3 dX12_laySums_157 (by decide) ?_
    refine z_aload_n C dX12_laySums_158 1 rfl ?_
    refine rw_g_X12_73_M_M C dX12_laySums_159 ?_
    refine z_iload_n C dX12_laySums_162 3 rfl ?_
    refine rw_l_M_M_42 C dX12_laySums_163 h (fun h => ?_)
    refine z_imul C dX12_laySums_164 ?_
    refine z_iload_n C dX12_laySums_165 0 rfl ?_
    refine z_iadd C dX12_laySums_166 ?_
    refine z_istoreN C dX12_laySums_167 (by decide) (lvr := [(3, .int x3_2), (0, .ref (qM 0)), (1, .int x1), (2, .int x2)]) rfl h (fun x4_3 h => ?_)
    refine z_aload_n C dX12_laySums_169 2 rfl ?_
    refine rw_g_X12_76_M_M C dX12_laySums_170 ?_
    refine z_iload_n C dX12_laySums_173 4 rfl ?_
    refine rw_l_M_M_43 C dX12_laySums_174 h (fun h => ?_)
    refine z_aload_n C dX12_laySums_175 2 rfl ?_
    refine rw_g_X12_52_M_M C dX12_laySums_176 ?_
    refine z_aload_n C dX12_laySums_179 2 rfl ?_
    refine rw_g_X12_70_M_M C dX12_laySums_180 ?_
    refine z_iload_n C dX12_laySums_183 4 rfl ?_
    refine rw_l_M_M_41 C dX12_laySums_184 h (fun h => ?_)
    refine rw_l_M_M_34 C dX12_laySums_185 h (fun h => ?_)
    refine z_imul C dX12_laySums_186 ?_
    refine z_aload_n C dX12_laySums_187 2 rfl ?_
    refine rw_g_X12_79_M_M C dX12_laySums_188 ?_
    refine z_iload_n C dX12_laySums_191 4 rfl ?_
    refine rw_l_M_M_44 C dX12_laySums_192 h (fun h => ?_)
    refine z_idiv C dX12_laySums_193 h (fun h => ?_)
    refine z_istoreN C dX12_laySums_194 (by decide) (lvr := [(4, .int x4_3), (3, .int x3_2), (0, .ref (qM 0)), (1, .int x1), (2, .int x2)]) rfl h (fun x5_4 h => ?_)
    refine z_iload_n C dX12_laySums_196 4 rfl ?_
    refine z_if_eq C dX12_laySums_197 232 (by decide) h (fun h => ?_) (fun h => ?_)
    · refine z_iconst C 1 dX12_laySums_232 (by decide) ?_
      refine z_goto C dX12_laySums_233 237 (by decide) ?_
      refine z_perm [3, 4, 5, 2, 1, 0] (lv' := [(0, .ref (qM 0)), (1, .int x1), (2, .int x2), (3, .int x3_2), (4, .int x4_3), (5, .int x5_4)]) rfl ?_
      exact kM_laySums_b237 C O hK137 h
    · refine z_iload_n C dX12_laySums_200 4 rfl ?_
      refine z_iconst C 3 dX12_laySums_201 (by decide) ?_
      refine z_icmp_ne C dX12_laySums_202 216 (by decide) h (fun h => ?_) (fun h => ?_)
      · refine z_perm [3, 4, 5, 2, 1, 0] (lv' := [(0, .ref (qM 0)), (1, .int x1), (2, .int x2), (3, .int x3_2), (4, .int x4_3), (5, .int x5_4)]) rfl ?_
        exact kM_laySums_b216 C O hK137 h
      · refine z_aload_n C dX12_laySums_205 3 rfl ?_
        refine rw_g_X12_76_M_M C dX12_laySums_206 ?_
        refine z_iload_n C dX12_laySums_209 5 rfl ?_
        refine rw_l_M_M_43 C dX12_laySums_210 h (fun h => ?_)
        refine z_iload C dX12_laySums_211 0 rfl ?_
        refine z_icmp_lt C dX12_laySums_213 232 (by decide) h (fun h => ?_) (fun h => ?_)
        · refine z_iconst C 1 dX12_laySums_232 (by decide) ?_
          refine z_goto C dX12_laySums_233 237 (by decide) ?_
          refine z_perm [3, 4, 5, 2, 1, 0] (lv' := [(0, .ref (qM 0)), (1, .int x1), (2, .int x2), (3, .int x3_2), (4, .int x4_3), (5, .int x5_4)]) rfl ?_
          exact kM_laySums_b237 C O hK137 h
        · refine z_perm [3, 4, 5, 2, 1, 0] (lv' := [(0, .ref (qM 0)), (1, .int x1), (2, .int x2), (3, .int x3_2), (4, .int x4_3), (5, .int x5_4)]) rfl ?_
          exact kM_laySums_b216 C O hK137 h
set_option maxHeartbeats 4000000 in
set_option maxRecDepth 100000 in
theorem kM_laySums_l137 {x : zX} {G : zG} {qM : Nat → Nat}  {out : zSt} (C : zC x G RX12 cX12_laySums 7 none rmX12_laySums) (O : zO x G none (wdM G qM out) 0 0)  : ∀ (n : Nat) {sM : zSt} {x1 : Int32} {x2 : Int32}, fM_laySums_l137  n sM x1 x2 = some out → zW x G 0 0 137 [(0, .ref (qM 0)), (1, .int x1), (2, .int x2)] [] (wdM G qM sM) := by
  intro n
  induction n with
  | zero =>
    intro sM x1 x2 h
    have h : (none : Option (zSt)) = some out := h
    cases h
  | succ n ih =>
    intro sM x1 x2 h
    exact kM_laySums_l137b C O (K137 := fun v0 v1 v2 => fM_laySums_l137  n v0 v1 v2) (fun sM x1 x2 h => ih h) h
set_option maxHeartbeats 4000000 in
set_option maxRecDepth 100000 in
theorem kM_laySums_l64b {x : zX} {G : zG} {qM : Nat → Nat}  {out : zSt} (C : zC x G RX12 cX12_laySums 7 none rmX12_laySums) (O : zO x G none (wdM G qM out) 0 0) {K64 : zSt → Int32 → Option (zSt)} (hK64 : ∀ (sM : zSt) (x1 : Int32), K64 sM x1 = some out → zW x G 0 0 64 [(0, .ref (qM 0)), (1, .int x1)] [] (wdM G qM sM)) {sM : zSt} {x1 : Int32} (h : fM_laySums_l64b K64 sM x1 = some out) : zW x G 0 0 64 [(0, .ref (qM 0)), (1, .int x1)] [] (wdM G qM sM) := by
  unfold fM_laySums_l64b at h
  refine z_iload_n C dX12_laySums_64 1 rfl ?_
  refine z_aload_n C dX12_laySums_65 0 rfl ?_
  refine rw_g_X12_297_M_M C dX12_laySums_66 ?_
  refine z_icmp_ge C dX12_laySums_69 120 (by decide) h (fun h => ?_) (fun h => ?_)
  · refine z_aload_n C dX12_laySums_120 0 rfl ?_
    refine rw_g_X12_19_M_M C dX12_laySums_121 ?_
    refine z_bipush C 8 dX12_laySums_124 (by decide) ?_
    refine z_aload_n C dX12_laySums_126 0 rfl ?_
    refine rw_g_X12_288_M_M C dX12_laySums_127 ?_
    refine z_imul C dX12_laySums_130 ?_
    refine z_iconst C 5 dX12_laySums_131 (by decide) ?_
    refine z_iadd C dX12_laySums_132 ?_
    refine rw_l_M_M_9 C dX12_laySums_133 h (fun h => ?_)
    refine z_istore_nN C dX12_laySums_134 (by decide) (lvr := [(0, .ref (qM 0))]) rfl h (fun x1_1 h => ?_)
    refine z_iconst C 0 dX12_laySums_135 (by decide) ?_
    refine z_istore_n C dX12_laySums_136 (by decide) (lvr := [(1, .int x1_1), (0, .ref (qM 0))]) rfl ?_
    refine z_perm [2, 1, 0] (lv' := [(0, .ref (qM 0)), (1, .int x1_1), (2, .int 0)]) rfl ?_
    exact kM_laySums_l137 C O  zF h
  · refine z_aload_n C dX12_laySums_72 0 rfl ?_
    refine rw_g_X12_82_M_M C dX12_laySums_73 ?_
    refine z_aload_n C dX12_laySums_76 0 rfl ?_
    refine rw_g_X12_37_M_M C dX12_laySums_77 ?_
    refine z_iload_n C dX12_laySums_80 1 rfl ?_
    refine rw_l_M_M_29 C dX12_laySums_81 h (fun h => ?_)
    refine z_dup2 C dX12_laySums_82 rfl rfl ?_
    refine rw_l_M_M_45 C dX12_laySums_83 h (fun h => ?_)
    refine z_aload_n C dX12_laySums_84 0 rfl ?_
    refine rw_g_X12_52_M_M C dX12_laySums_85 ?_
    refine z_iload_n C dX12_laySums_88 1 rfl ?_
    refine rw_l_M_M_34 C dX12_laySums_89 h (fun h => ?_)
    refine z_i2l C dX12_laySums_90 ?_
    refine z_ladd C dX12_laySums_91 ?_
    refine rw_s_M_M_45 C dX12_laySums_92 h (fun sM11 h => ?_)
    refine z_aload_n C dX12_laySums_93 0 rfl ?_
    refine rw_g_X12_86_M_M C dX12_laySums_94 ?_
    refine z_aload_n C dX12_laySums_97 0 rfl ?_
    refine rw_g_X12_37_M_M C dX12_laySums_98 ?_
    refine z_iload_n C dX12_laySums_101 1 rfl ?_
    refine rw_l_M_M_29 C dX12_laySums_102 h (fun h => ?_)
    refine z_dup2 C dX12_laySums_103 rfl rfl ?_
    refine rw_l_M_M_46 C dX12_laySums_104 h (fun h => ?_)
    refine z_aload_n C dX12_laySums_105 0 rfl ?_
    refine rw_g_X12_55_M_M C dX12_laySums_106 ?_
    refine z_iload_n C dX12_laySums_109 1 rfl ?_
    refine rw_l_M_M_35 C dX12_laySums_110 h (fun h => ?_)
    refine z_i2l C dX12_laySums_111 ?_
    refine z_ladd C dX12_laySums_112 ?_
    refine rw_s_M_M_46 C dX12_laySums_113 h (fun sM12 h => ?_)
    refine z_iinc C dX12_laySums_114 1 rfl 1 (by decide) (by decide) (lvr := [(0, .ref (qM 0))]) rfl h (fun x1_13 h => ?_)
    refine z_goto C dX12_laySums_117 64 (by decide) ?_
    refine z_perm [1, 0] (lv' := [(0, .ref (qM 0)), (1, .int x1_13)]) rfl ?_
    exact hK64 _  _ h
set_option maxHeartbeats 4000000 in
set_option maxRecDepth 100000 in
theorem kM_laySums_l64 {x : zX} {G : zG} {qM : Nat → Nat}  {out : zSt} (C : zC x G RX12 cX12_laySums 7 none rmX12_laySums) (O : zO x G none (wdM G qM out) 0 0)  : ∀ (n : Nat) {sM : zSt} {x1 : Int32}, fM_laySums_l64  n sM x1 = some out → zW x G 0 0 64 [(0, .ref (qM 0)), (1, .int x1)] [] (wdM G qM sM) := by
  intro n
  induction n with
  | zero =>
    intro sM x1 h
    have h : (none : Option (zSt)) = some out := h
    cases h
  | succ n ih =>
    intro sM x1 h
    exact kM_laySums_l64b C O (K64 := fun v0 v1 => fM_laySums_l64  n v0 v1) (fun sM x1 h => ih h) h
set_option maxHeartbeats 4000000 in
set_option maxRecDepth 100000 in
theorem kM_laySums_l30b {x : zX} {G : zG} {qM : Nat → Nat}  {out : zSt} (C : zC x G RX12 cX12_laySums 7 none rmX12_laySums) (O : zO x G none (wdM G qM out) 0 0) {K30 : zSt → Int32 → Option (zSt)} (hK30 : ∀ (sM : zSt) (x1 : Int32), K30 sM x1 = some out → zW x G 0 0 30 [(0, .ref (qM 0)), (1, .int x1)] [] (wdM G qM sM)) {sM : zSt} {x1 : Int32} (h : fM_laySums_l30b K30 sM x1 = some out) : zW x G 0 0 30 [(0, .ref (qM 0)), (1, .int x1)] [] (wdM G qM sM) := by
  unfold fM_laySums_l30b at h
  refine z_iload_n C dX12_laySums_30 1 rfl ?_
  refine z_iconst C 3 dX12_laySums_31 (by decide) ?_
  refine z_icmp_ge C dX12_laySums_32 62 (by decide) h (fun h => ?_) (fun h => ?_)
  · refine z_iconst C 0 dX12_laySums_62 (by decide) ?_
    refine z_istore_n C dX12_laySums_63 (by decide) (lvr := [(0, .ref (qM 0))]) rfl ?_
    refine z_perm [1, 0] (lv' := [(0, .ref (qM 0)), (1, .int 0)]) rfl ?_
    exact kM_laySums_l64 C O  zF h
  · refine z_aload_n C dX12_laySums_35 0 rfl ?_
    refine rw_g_X12_82_M_M C dX12_laySums_36 ?_
    refine z_iload_n C dX12_laySums_39 1 rfl ?_
    refine z_aload_n C dX12_laySums_40 0 rfl ?_
    refine rw_g_X12_67_M_M C dX12_laySums_41 ?_
    refine z_iload_n C dX12_laySums_44 1 rfl ?_
    refine rw_l_M_M_39 C dX12_laySums_45 h (fun h => ?_)
    refine z_ineg C dX12_laySums_46 ?_
    refine z_i2l C dX12_laySums_47 ?_
    refine rw_s_M_M_45 C dX12_laySums_48 h (fun sM14 h => ?_)
    refine z_aload_n C dX12_laySums_49 0 rfl ?_
    refine rw_g_X12_86_M_M C dX12_laySums_50 ?_
    refine z_iload_n C dX12_laySums_53 1 rfl ?_
    refine z_lconst C 0 dX12_laySums_54 (by decide) ?_
    refine rw_s_M_M_46 C dX12_laySums_55 h (fun sM15 h => ?_)
    refine z_iinc C dX12_laySums_56 1 rfl 1 (by decide) (by decide) (lvr := [(0, .ref (qM 0))]) rfl h (fun x1_16 h => ?_)
    refine z_goto C dX12_laySums_59 30 (by decide) ?_
    refine z_perm [1, 0] (lv' := [(0, .ref (qM 0)), (1, .int x1_16)]) rfl ?_
    exact hK30 _  _ h
set_option maxHeartbeats 4000000 in
set_option maxRecDepth 100000 in
theorem kM_laySums_l30 {x : zX} {G : zG} {qM : Nat → Nat}  {out : zSt} (C : zC x G RX12 cX12_laySums 7 none rmX12_laySums) (O : zO x G none (wdM G qM out) 0 0)  : ∀ (n : Nat) {sM : zSt} {x1 : Int32}, fM_laySums_l30  n sM x1 = some out → zW x G 0 0 30 [(0, .ref (qM 0)), (1, .int x1)] [] (wdM G qM sM) := by
  intro n
  induction n with
  | zero =>
    intro sM x1 h
    have h : (none : Option (zSt)) = some out := h
    cases h
  | succ n ih =>
    intro sM x1 h
    exact kM_laySums_l30b C O (K30 := fun v0 v1 => fM_laySums_l30  n v0 v1) (fun sM x1 h => ih h) h
set_option maxHeartbeats 4000000 in
set_option maxRecDepth 100000 in
theorem kM_laySums_l2b {x : zX} {G : zG} {qM : Nat → Nat}  {out : zSt} (C : zC x G RX12 cX12_laySums 7 none rmX12_laySums) (O : zO x G none (wdM G qM out) 0 0) {K2 : zSt → Int32 → Option (zSt)} (hK2 : ∀ (sM : zSt) (x1 : Int32), K2 sM x1 = some out → zW x G 0 0 2 [(0, .ref (qM 0)), (1, .int x1)] [] (wdM G qM sM)) {sM : zSt} {x1 : Int32} (h : fM_laySums_l2b K2 sM x1 = some out) : zW x G 0 0 2 [(0, .ref (qM 0)), (1, .int x1)] [] (wdM G qM sM) := by
  unfold fM_laySums_l2b at h
  refine z_iload_n C dX12_laySums_2 1 rfl ?_
  refine z_bipush C 9 dX12_laySums_3 (by decide) ?_
  refine z_icmp_ge C dX12_laySums_5 28 (by decide) h (fun h => ?_) (fun h => ?_)
  · refine z_iconst C 0 dX12_laySums_28 (by decide) ?_
    refine z_istore_n C dX12_laySums_29 (by decide) (lvr := [(0, .ref (qM 0))]) rfl ?_
    refine z_perm [1, 0] (lv' := [(0, .ref (qM 0)), (1, .int 0)]) rfl ?_
    exact kM_laySums_l30 C O  zF h
  · refine z_aload_n C dX12_laySums_8 0 rfl ?_
    refine rw_g_X12_89_M_M C dX12_laySums_9 ?_
    refine z_iload_n C dX12_laySums_12 1 rfl ?_
    refine z_lconst C 0 dX12_laySums_13 (by decide) ?_
    refine rw_s_M_M_47 C dX12_laySums_14 h (fun sM17 h => ?_)
    refine z_aload_n C dX12_laySums_15 0 rfl ?_
    refine rw_g_X12_92_M_M C dX12_laySums_16 ?_
    refine z_iload_n C dX12_laySums_19 1 rfl ?_
    refine z_lconst C 0 dX12_laySums_20 (by decide) ?_
    refine rw_s_M_M_48 C dX12_laySums_21 h (fun sM18 h => ?_)
    refine z_iinc C dX12_laySums_22 1 rfl 1 (by decide) (by decide) (lvr := [(0, .ref (qM 0))]) rfl h (fun x1_19 h => ?_)
    refine z_goto C dX12_laySums_25 2 (by decide) ?_
    refine z_perm [1, 0] (lv' := [(0, .ref (qM 0)), (1, .int x1_19)]) rfl ?_
    exact hK2 _  _ h
set_option maxHeartbeats 4000000 in
set_option maxRecDepth 100000 in
theorem kM_laySums_l2 {x : zX} {G : zG} {qM : Nat → Nat}  {out : zSt} (C : zC x G RX12 cX12_laySums 7 none rmX12_laySums) (O : zO x G none (wdM G qM out) 0 0)  : ∀ (n : Nat) {sM : zSt} {x1 : Int32}, fM_laySums_l2  n sM x1 = some out → zW x G 0 0 2 [(0, .ref (qM 0)), (1, .int x1)] [] (wdM G qM sM) := by
  intro n
  induction n with
  | zero =>
    intro sM x1 h
    have h : (none : Option (zSt)) = some out := h
    cases h
  | succ n ih =>
    intro sM x1 h
    exact kM_laySums_l2b C O (K2 := fun v0 v1 => fM_laySums_l2  n v0 v1) (fun sM x1 h => ih h) h
set_option maxHeartbeats 4000000 in
set_option maxRecDepth 100000 in
theorem cM_laySums {l : Launch} {G : zG} {qM : Nat → Nat} {sM : zSt}  {out : zSt} (h : fM_laySums sM  = some out) : Ct l G yX12_laySums cX12_laySums 7 none rmX12_laySums [.ref (qM 0)] (wdM G qM sM) none (wdM G qM out) := by
  refine zMet (own := RX12) rfl (by decide) (Nat.le_of_ble_eq_true rfl) (fun x hl C O => ?_)
  show zW x G 0 0 0 [(0, .ref (qM 0))] [] _
  unfold fM_laySums at h
  refine z_iconst C 0 dX12_laySums_0 (by decide) ?_
  refine z_istore_n C dX12_laySums_1 (by decide) (lvr := [(0, .ref (qM 0))]) rfl ?_
  refine z_perm [1, 0] (lv' := [(0, .ref (qM 0)), (1, .int 0)]) rfl ?_
  exact kM_laySums_l2 C O  zF h
set_option maxHeartbeats 4000000 in
set_option maxRecDepth 100000 in
theorem cM_isPurse {l : Launch} {G : zG} {qM : Nat → Nat} {sM : zSt} {a0 : Int32} {out : Bool} (h : fM_isPurse sM a0 = some out) : Ct l G yX12_isPurse cX12_isPurse 2 (some .boolean) rmX12_isPurse [.ref (qM 0), .int a0] (wdM G qM sM) (some (.int (zb out))) (wdM G qM sM) := by
  refine zMet (own := RX12) rfl (by decide) (Nat.le_of_ble_eq_true rfl) (fun x hl C O => ?_)
  show zW x G 0 0 0 [(0, .ref (qM 0)), (1, .int a0)] [] _
  unfold fM_isPurse at h
  refine z_iload_n C dX12_isPurse_0 1 rfl ?_
  refine z_i2l C dX12_isPurse_1 ?_
  refine z_lconst C 0 dX12_isPurse_2 (by decide) ?_
  refine z_ldc2 C rw_u_1137 dX12_isPurse_3 ?_
  obtain ⟨y1, hy1, h⟩ := bind_o h
  refine rw_c_X12_118 C (Ct.frame0 (cM_in hy1)) dX12_isPurse_6 (Nat.le_of_ble_eq_true rfl) (zrm rfl) ?_
  replace h := Option.some.inj h
  subst h
  exact z_zret C O dX12_isPurse_9 (zb_nar y1) rfl rfl
set_option maxHeartbeats 4000000 in
set_option maxRecDepth 100000 in
theorem kM_purse_l42b {x : zX} {G : zG} {qM : Nat → Nat}  {out : Int64 × zSt} (C : zC x G RX12 cX12_purse 5 (some .long) rmX12_purse) (O : zO x G (some (.long out.1)) (wdM G qM out.2) 0 0) {K42 : zSt → Int32 → Int32 → Int32 → Int32 → Option (Int64 × zSt)} (hK42 : ∀ (sM : zSt) (x1 : Int32) (x2 : Int32) (x3 : Int32) (x4 : Int32), K42 sM x1 x2 x3 x4 = some out → zW x G 0 0 42 [(0, .ref (qM 0)), (1, .int x1), (2, .int x2), (3, .int x3), (4, .int x4)] [] (wdM G qM sM)) {sM : zSt} {x1 : Int32} {x2 : Int32} {x3 : Int32} {x4 : Int32} (h : fM_purse_l42b K42 sM x1 x2 x3 x4 = some out) : zW x G 0 0 42 [(0, .ref (qM 0)), (1, .int x1), (2, .int x2), (3, .int x3), (4, .int x4)] [] (wdM G qM sM) := by
  unfold fM_purse_l42b at h
  refine z_iload C dX12_purse_42 4 rfl ?_
  refine z_aload_n C dX12_purse_44 0 rfl ?_
  refine rw_g_X12_297_M_M C dX12_purse_45 ?_
  refine z_icmp_ge C dX12_purse_48 76 (by decide) h (fun h => ?_) (fun h => ?_)
  · refine z_iload_n C dX12_purse_76 2 rfl ?_
    refine z_if_ne C dX12_purse_77 89 (by decide) h (fun h => ?_) (fun h => ?_)
    · refine z_iload_n C dX12_purse_89 2 rfl ?_
      refine z_iconst C 1 dX12_purse_90 (by decide) ?_
      refine z_icmp_ne C dX12_purse_91 103 (by decide) h (fun h => ?_) (fun h => ?_)
      · refine z_iload_n C dX12_purse_103 2 rfl ?_
        refine z_iconst C 2 dX12_purse_104 (by decide) ?_
        refine z_icmp_ne C dX12_purse_105 118 (by decide) h (fun h => ?_) (fun h => ?_)
        · refine z_iload_n C dX12_purse_118 3 rfl ?_
          refine z_i2l C dX12_purse_119 ?_
          replace h := Option.some.inj h
          subst h
          exact z_lret C O dX12_purse_120 rfl rfl
        · refine z_aload_n C dX12_purse_108 0 rfl ?_
          refine rw_g_X12_67_M_M C dX12_purse_109 ?_
          refine z_iload_n C dX12_purse_112 1 rfl ?_
          refine rw_l_M_M_39 C dX12_purse_113 h (fun h => ?_)
          refine z_i2l C dX12_purse_114 ?_
          refine z_goto C dX12_purse_115 120 (by decide) ?_
          replace h := Option.some.inj h
          subst h
          exact z_lret C O dX12_purse_120 rfl rfl
      · refine z_aload_n C dX12_purse_94 0 rfl ?_
        refine rw_g_X12_86_M_M C dX12_purse_95 ?_
        refine z_iload_n C dX12_purse_98 1 rfl ?_
        refine rw_l_M_M_46 C dX12_purse_99 h (fun h => ?_)
        refine z_goto C dX12_purse_100 120 (by decide) ?_
        replace h := Option.some.inj h
        subst h
        exact z_lret C O dX12_purse_120 rfl rfl
    · refine z_aload_n C dX12_purse_80 0 rfl ?_
      refine rw_g_X12_82_M_M C dX12_purse_81 ?_
      refine z_iload_n C dX12_purse_84 1 rfl ?_
      refine rw_l_M_M_45 C dX12_purse_85 h (fun h => ?_)
      refine z_goto C dX12_purse_86 120 (by decide) ?_
      replace h := Option.some.inj h
      subst h
      exact z_lret C O dX12_purse_120 rfl rfl
  · refine z_iload_n C dX12_purse_51 3 rfl ?_
    refine z_aload_n C dX12_purse_52 0 rfl ?_
    refine rw_g_X12_37_M_M C dX12_purse_53 ?_
    refine z_iload C dX12_purse_56 4 rfl ?_
    refine rw_l_M_M_29 C dX12_purse_58 h (fun h => ?_)
    refine z_iload_n C dX12_purse_59 1 rfl ?_
    refine z_icmp_ne C dX12_purse_60 67 (by decide) h (fun h => ?_) (fun h => ?_)
    · refine z_iconst C 0 dX12_purse_67 (by decide) ?_
      refine z_iadd C dX12_purse_68 ?_
      refine z_istore_nN C dX12_purse_69 (by decide) (lvr := [(0, .ref (qM 0)), (1, .int x1), (2, .int x2), (4, .int x4)]) rfl h (fun x3_6 h => ?_)
      refine z_iinc C dX12_purse_70 4 rfl 1 (by decide) (by decide) (lvr := [(3, .int x3_6), (0, .ref (qM 0)), (1, .int x1), (2, .int x2)]) rfl h (fun x4_7 h => ?_)
      refine z_goto C dX12_purse_73 42 (by decide) ?_
      refine z_perm [2, 3, 4, 1, 0] (lv' := [(0, .ref (qM 0)), (1, .int x1), (2, .int x2), (3, .int x3_6), (4, .int x4_7)]) rfl ?_
      exact hK42 _  _ _ _ _ h
    · refine z_iconst C 1 dX12_purse_63 (by decide) ?_
      refine z_goto C dX12_purse_64 68 (by decide) ?_
      refine z_iadd C dX12_purse_68 ?_
      refine z_istore_nN C dX12_purse_69 (by decide) (lvr := [(0, .ref (qM 0)), (1, .int x1), (2, .int x2), (4, .int x4)]) rfl h (fun x3_8 h => ?_)
      refine z_iinc C dX12_purse_70 4 rfl 1 (by decide) (by decide) (lvr := [(3, .int x3_8), (0, .ref (qM 0)), (1, .int x1), (2, .int x2)]) rfl h (fun x4_9 h => ?_)
      refine z_goto C dX12_purse_73 42 (by decide) ?_
      refine z_perm [2, 3, 4, 1, 0] (lv' := [(0, .ref (qM 0)), (1, .int x1), (2, .int x2), (3, .int x3_8), (4, .int x4_9)]) rfl ?_
      exact hK42 _  _ _ _ _ h
set_option maxHeartbeats 4000000 in
set_option maxRecDepth 100000 in
theorem kM_purse_l42 {x : zX} {G : zG} {qM : Nat → Nat}  {out : Int64 × zSt} (C : zC x G RX12 cX12_purse 5 (some .long) rmX12_purse) (O : zO x G (some (.long out.1)) (wdM G qM out.2) 0 0)  : ∀ (n : Nat) {sM : zSt} {x1 : Int32} {x2 : Int32} {x3 : Int32} {x4 : Int32}, fM_purse_l42  n sM x1 x2 x3 x4 = some out → zW x G 0 0 42 [(0, .ref (qM 0)), (1, .int x1), (2, .int x2), (3, .int x3), (4, .int x4)] [] (wdM G qM sM) := by
  intro n
  induction n with
  | zero =>
    intro sM x1 x2 x3 x4 h
    have h : (none : Option (Int64 × zSt)) = some out := h
    cases h
  | succ n ih =>
    intro sM x1 x2 x3 x4 h
    exact kM_purse_l42b C O (K42 := fun v0 v1 v2 v3 v4 => fM_purse_l42  n v0 v1 v2 v3 v4) (fun sM x1 x2 x3 x4 h => ih h) h
set_option maxHeartbeats 4000000 in
set_option maxRecDepth 100000 in
theorem cM_purse {l : Launch} {G : zG} {qM : Nat → Nat} {sM : zSt} {a0 : Int32} {a1 : Int32} {out : Int64 × zSt} (h : fM_purse sM a0 a1 = some out) : Ct l G yX12_purse cX12_purse 5 (some .long) rmX12_purse [.ref (qM 0), .int a0, .int a1] (wdM G qM sM) (some (.long out.1)) (wdM G qM out.2) := by
  refine zMet (own := RX12) rfl (by decide) (Nat.le_of_ble_eq_true rfl) (fun x hl C O => ?_)
  show zW x G 0 0 0 [(0, .ref (qM 0)), (1, .int a0), (2, .int a1)] [] _
  unfold fM_purse at h
  refine z_aload_n C dX12_purse_0 0 rfl ?_
  refine z_iconst C 0 dX12_purse_1 (by decide) ?_
  refine rw_p_X12_107_M_M C dX12_purse_2 h (fun sM1 h => ?_)
  refine z_aload_n C dX12_purse_5 0 rfl ?_
  refine z_iload_n C dX12_purse_6 1 rfl ?_
  obtain ⟨y2, hy2, h⟩ := bind_o h
  refine rw_c_X12_337 C (cM_isPurse hy2) 0 rfl dX12_purse_7 (Nat.le_of_ble_eq_true rfl) (zrm rfl) ?_
  refine z_ifb_eq C dX12_purse_10 25 (by decide) h (fun h => ?_) (fun h => ?_)
  · refine z_ldc2 C rw_u_1138 dX12_purse_25 ?_
    replace h := Option.some.inj h
    subst h
    exact z_lret C O dX12_purse_28 rfl rfl
  · refine z_iload_n C dX12_purse_13 2 rfl ?_
    refine z_i2l C dX12_purse_14 ?_
    refine z_lconst C 0 dX12_purse_15 (by decide) ?_
    refine z_ldc2 C rw_u_1314 dX12_purse_16 ?_
    obtain ⟨y3, hy3, h⟩ := bind_o h
    refine rw_c_X12_118 C (Ct.frame0 (cM_in hy3)) dX12_purse_19 (Nat.le_of_ble_eq_true rfl) (zrm rfl) ?_
    refine z_ifb_ne C dX12_purse_22 29 (by decide) h (fun h => ?_) (fun h => ?_)
    · refine z_aload_n C dX12_purse_29 0 rfl ?_
      obtain ⟨y4, hy4, h⟩ := bind_o h
      refine rw_c_X12_329 C (cM_goAll hy4) 0 rfl dX12_purse_30 (Nat.le_of_ble_eq_true rfl) (zrm rfl) ?_
      refine z_aload_n C dX12_purse_33 0 rfl ?_
      obtain ⟨y5, hy5, h⟩ := bind_o h
      refine rw_c_X12_342 C (cM_laySums hy5) 0 rfl dX12_purse_34 (Nat.le_of_ble_eq_true rfl) (zrm rfl) ?_
      refine z_iconst C 0 dX12_purse_37 (by decide) ?_
      refine z_istore_n C dX12_purse_38 (by decide) (lvr := [(0, .ref (qM 0)), (1, .int a0), (2, .int a1)]) rfl ?_
      refine z_iconst C 0 dX12_purse_39 (by decide) ?_
      refine z_istore C dX12_purse_40 (by decide) (lvr := [(3, .int 0), (0, .ref (qM 0)), (1, .int a0), (2, .int a1)]) rfl ?_
      refine z_perm [2, 3, 4, 1, 0] (lv' := [(0, .ref (qM 0)), (1, .int a0), (2, .int a1), (3, .int 0), (4, .int 0)]) rfl ?_
      exact kM_purse_l42 C O  zF h
    · refine z_ldc2 C rw_u_1138 dX12_purse_25 ?_
      replace h := Option.some.inj h
      subst h
      exact z_lret C O dX12_purse_28 rfl rfl
set_option maxHeartbeats 4000000 in
set_option maxRecDepth 100000 in
theorem cM_fed {l : Launch} {G : zG} {qM : Nat → Nat} {sM : zSt} {a0 : Int32} {a1 : Int32} {out : Int64 × zSt} (h : fM_fed sM a0 a1 = some out) : Ct l G yX12_fed cX12_fed 3 (some .long) rmX12_fed [.ref (qM 0), .int a0, .int a1] (wdM G qM sM) (some (.long out.1)) (wdM G qM out.2) := by
  refine zMet (own := RX12) rfl (by decide) (Nat.le_of_ble_eq_true rfl) (fun x hl C O => ?_)
  show zW x G 0 0 0 [(0, .ref (qM 0)), (1, .int a0), (2, .int a1)] [] _
  unfold fM_fed at h
  refine z_aload_n C dX12_fed_0 0 rfl ?_
  refine z_iconst C 0 dX12_fed_1 (by decide) ?_
  refine rw_p_X12_107_M_M C dX12_fed_2 h (fun sM1 h => ?_)
  refine z_aload_n C dX12_fed_5 0 rfl ?_
  refine z_iload_n C dX12_fed_6 1 rfl ?_
  obtain ⟨y2, hy2, h⟩ := bind_o h
  refine rw_c_X12_337 C (cM_isPurse hy2) 0 rfl dX12_fed_7 (Nat.le_of_ble_eq_true rfl) (zrm rfl) ?_
  refine z_ifb_eq C dX12_fed_10 26 (by decide) h (fun h => ?_) (fun h => ?_)
  · refine z_ldc2 C rw_u_1138 dX12_fed_26 ?_
    replace h := Option.some.inj h
    subst h
    exact z_lret C O dX12_fed_29 rfl rfl
  · refine z_aload_n C dX12_fed_13 0 rfl ?_
    refine z_iload_n C dX12_fed_14 2 rfl ?_
    obtain ⟨y3, hy3, h⟩ := bind_o h
    refine rw_c_X12_337 C (cM_isPurse hy3) 0 rfl dX12_fed_15 (Nat.le_of_ble_eq_true rfl) (zrm rfl) ?_
    refine z_ifb_eq C dX12_fed_18 26 (by decide) h (fun h => ?_) (fun h => ?_)
    · refine z_ldc2 C rw_u_1138 dX12_fed_26 ?_
      replace h := Option.some.inj h
      subst h
      exact z_lret C O dX12_fed_29 rfl rfl
    · refine z_iload_n C dX12_fed_21 1 rfl ?_
      refine z_iload_n C dX12_fed_22 2 rfl ?_
      refine z_icmp_ne C dX12_fed_23 30 (by decide) h (fun h => ?_) (fun h => ?_)
      · refine z_aload_n C dX12_fed_30 0 rfl ?_
        obtain ⟨y4, hy4, h⟩ := bind_o h
        refine rw_c_X12_329 C (cM_goAll hy4) 0 rfl dX12_fed_31 (Nat.le_of_ble_eq_true rfl) (zrm rfl) ?_
        refine z_aload_n C dX12_fed_34 0 rfl ?_
        obtain ⟨y5, hy5, h⟩ := bind_o h
        refine rw_c_X12_342 C (cM_laySums hy5) 0 rfl dX12_fed_35 (Nat.le_of_ble_eq_true rfl) (zrm rfl) ?_
        refine z_aload_n C dX12_fed_38 0 rfl ?_
        refine rw_g_X12_89_M_M C dX12_fed_39 ?_
        refine z_iconst C 3 dX12_fed_42 (by decide) ?_
        refine z_iload_n C dX12_fed_43 1 rfl ?_
        refine z_imul C dX12_fed_44 ?_
        refine z_iload_n C dX12_fed_45 2 rfl ?_
        refine z_iadd C dX12_fed_46 ?_
        refine rw_l_M_M_47 C dX12_fed_47 h (fun h => ?_)
        replace h := Option.some.inj h
        subst h
        exact z_lret C O dX12_fed_48 rfl rfl
      · refine z_ldc2 C rw_u_1138 dX12_fed_26 ?_
        replace h := Option.some.inj h
        subst h
        exact z_lret C O dX12_fed_29 rfl rfl
set_option maxHeartbeats 4000000 in
set_option maxRecDepth 100000 in
theorem cM_minor {l : Launch} {G : zG} {qM : Nat → Nat} {sM : zSt} {a0 : Int32} {a1 : Int32} {a2 : Int32} {a3 : Int32} {out : Int64} (h : fM_minor sM a0 a1 a2 a3 = some out) : Ct l G yX12_minor cX12_minor 5 (some .long) rmX12_minor [.ref (qM 0), .int a0, .int a1, .int a2, .int a3] (wdM G qM sM) (some (.long out)) (wdM G qM sM) := by
  refine zMet (own := RX12) rfl (by decide) (Nat.le_of_ble_eq_true rfl) (fun x hl C O => ?_)
  show zW x G 0 0 0 [(0, .ref (qM 0)), (1, .int a0), (2, .int a1), (3, .int a2), (4, .int a3)] [] _
  unfold fM_minor at h
  refine z_aload_n C dX12_minor_0 0 rfl ?_
  refine rw_g_X12_101_M_M C dX12_minor_1 ?_
  refine z_iconst C 3 dX12_minor_4 (by decide) ?_
  refine z_iload_n C dX12_minor_5 1 rfl ?_
  refine z_imul C dX12_minor_6 ?_
  refine z_iload_n C dX12_minor_7 3 rfl ?_
  refine z_iadd C dX12_minor_8 ?_
  refine rw_l_M_M_52 C dX12_minor_9 h (fun h => ?_)
  refine z_aload_n C dX12_minor_10 0 rfl ?_
  refine rw_g_X12_101_M_M C dX12_minor_11 ?_
  refine z_iconst C 3 dX12_minor_14 (by decide) ?_
  refine z_iload_n C dX12_minor_15 2 rfl ?_
  refine z_imul C dX12_minor_16 ?_
  refine z_iload C dX12_minor_17 4 rfl ?_
  refine z_iadd C dX12_minor_19 ?_
  refine rw_l_M_M_52 C dX12_minor_20 h (fun h => ?_)
  refine z_lmul C dX12_minor_21 ?_
  refine z_aload_n C dX12_minor_22 0 rfl ?_
  refine rw_g_X12_101_M_M C dX12_minor_23 ?_
  refine z_iconst C 3 dX12_minor_26 (by decide) ?_
  refine z_iload_n C dX12_minor_27 1 rfl ?_
  refine z_imul C dX12_minor_28 ?_
  refine z_iload C dX12_minor_29 4 rfl ?_
  refine z_iadd C dX12_minor_31 ?_
  refine rw_l_M_M_52 C dX12_minor_32 h (fun h => ?_)
  refine z_aload_n C dX12_minor_33 0 rfl ?_
  refine rw_g_X12_101_M_M C dX12_minor_34 ?_
  refine z_iconst C 3 dX12_minor_37 (by decide) ?_
  refine z_iload_n C dX12_minor_38 2 rfl ?_
  refine z_imul C dX12_minor_39 ?_
  refine z_iload_n C dX12_minor_40 3 rfl ?_
  refine z_iadd C dX12_minor_41 ?_
  refine rw_l_M_M_52 C dX12_minor_42 h (fun h => ?_)
  refine z_lmul C dX12_minor_43 ?_
  refine z_lsub C dX12_minor_44 ?_
  replace h := Option.some.inj h
  subst h
  exact z_lret C O dX12_minor_45 rfl rfl
set_option maxHeartbeats 4000000 in
set_option maxRecDepth 100000 in
theorem cM_determinant {l : Launch} {G : zG} {qM : Nat → Nat} {sM : zSt}  {out : Int64} (h : fM_determinant sM  = some out) : Ct l G yX12_determinant cX12_determinant 1 (some .long) rmX12_determinant [.ref (qM 0)] (wdM G qM sM) (some (.long out)) (wdM G qM sM) := by
  refine zMet (own := RX12) rfl (by decide) (Nat.le_of_ble_eq_true rfl) (fun x hl C O => ?_)
  show zW x G 0 0 0 [(0, .ref (qM 0))] [] _
  unfold fM_determinant at h
  refine z_aload_n C dX12_determinant_0 0 rfl ?_
  refine rw_g_X12_101_M_M C dX12_determinant_1 ?_
  refine z_iconst C 0 dX12_determinant_4 (by decide) ?_
  refine rw_l_M_M_52 C dX12_determinant_5 h (fun h => ?_)
  refine z_aload_n C dX12_determinant_6 0 rfl ?_
  refine z_iconst C 1 dX12_determinant_7 (by decide) ?_
  refine z_iconst C 2 dX12_determinant_8 (by decide) ?_
  refine z_iconst C 1 dX12_determinant_9 (by decide) ?_
  refine z_iconst C 2 dX12_determinant_10 (by decide) ?_
  obtain ⟨y1, hy1, h⟩ := bind_o h
  refine rw_c_X12_345 C (cM_minor hy1) 0 rfl dX12_determinant_11 (Nat.le_of_ble_eq_true rfl) (zrm rfl) ?_
  refine z_lmul C dX12_determinant_14 ?_
  refine z_aload_n C dX12_determinant_15 0 rfl ?_
  refine rw_g_X12_101_M_M C dX12_determinant_16 ?_
  refine z_iconst C 1 dX12_determinant_19 (by decide) ?_
  refine rw_l_M_M_52 C dX12_determinant_20 h (fun h => ?_)
  refine z_aload_n C dX12_determinant_21 0 rfl ?_
  refine z_iconst C 1 dX12_determinant_22 (by decide) ?_
  refine z_iconst C 2 dX12_determinant_23 (by decide) ?_
  refine z_iconst C 0 dX12_determinant_24 (by decide) ?_
  refine z_iconst C 2 dX12_determinant_25 (by decide) ?_
  obtain ⟨y2, hy2, h⟩ := bind_o h
  refine rw_c_X12_345 C (cM_minor hy2) 0 rfl dX12_determinant_26 (Nat.le_of_ble_eq_true rfl) (zrm rfl) ?_
  refine z_lmul C dX12_determinant_29 ?_
  refine z_lsub C dX12_determinant_30 ?_
  refine z_aload_n C dX12_determinant_31 0 rfl ?_
  refine rw_g_X12_101_M_M C dX12_determinant_32 ?_
  refine z_iconst C 2 dX12_determinant_35 (by decide) ?_
  refine rw_l_M_M_52 C dX12_determinant_36 h (fun h => ?_)
  refine z_aload_n C dX12_determinant_37 0 rfl ?_
  refine z_iconst C 1 dX12_determinant_38 (by decide) ?_
  refine z_iconst C 2 dX12_determinant_39 (by decide) ?_
  refine z_iconst C 0 dX12_determinant_40 (by decide) ?_
  refine z_iconst C 1 dX12_determinant_41 (by decide) ?_
  obtain ⟨y3, hy3, h⟩ := bind_o h
  refine rw_c_X12_345 C (cM_minor hy3) 0 rfl dX12_determinant_42 (Nat.le_of_ble_eq_true rfl) (zrm rfl) ?_
  refine z_lmul C dX12_determinant_45 ?_
  refine z_ladd C dX12_determinant_46 ?_
  replace h := Option.some.inj h
  subst h
  exact z_lret C O dX12_determinant_47 rfl rfl
set_option maxHeartbeats 4000000 in
set_option maxRecDepth 100000 in
theorem kM_laySides_l85b {x : zX} {G : zG} {qM : Nat → Nat}  {out : zSt} (C : zC x G RX12 cX12_laySides 3 none rmX12_laySides) (O : zO x G none (wdM G qM out) 0 0) {K78 : zSt → Int32 → Option (zSt)} (hK78 : ∀ (sM : zSt) (x1 : Int32), K78 sM x1 = some out → zW x G 0 0 78 [(0, .ref (qM 0)), (1, .int x1)] [] (wdM G qM sM)) {K85 : zSt → Int32 → Int32 → Option (zSt)} (hK85 : ∀ (sM : zSt) (x1 : Int32) (x2 : Int32), K85 sM x1 x2 = some out → zW x G 0 0 85 [(0, .ref (qM 0)), (1, .int x1), (2, .int x2)] [] (wdM G qM sM)) {sM : zSt} {x1 : Int32} {x2 : Int32} (h : fM_laySides_l85b K78 K85 sM x1 x2 = some out) : zW x G 0 0 85 [(0, .ref (qM 0)), (1, .int x1), (2, .int x2)] [] (wdM G qM sM) := by
  unfold fM_laySides_l85b at h
  refine z_iload_n C dX12_laySides_85 2 rfl ?_
  refine z_iconst C 3 dX12_laySides_86 (by decide) ?_
  refine z_icmp_ge C dX12_laySides_87 126 (by decide) h (fun h => ?_) (fun h => ?_)
  · refine z_iinc C dX12_laySides_126 1 rfl 1 (by decide) (by decide) (lvr := [(0, .ref (qM 0)), (2, .int x2)]) rfl h (fun x1_1 h => ?_)
    refine z_goto C dX12_laySides_129 78 (by decide) ?_
    refine z_perm [1, 0] (lv' := [(0, .ref (qM 0)), (1, .int x1_1)]) rfl ?_
    exact hK78 _  _ h
  · refine z_aload_n C dX12_laySides_90 0 rfl ?_
    refine rw_g_X12_101_M_M C dX12_laySides_91 ?_
    refine z_iconst C 4 dX12_laySides_94 (by decide) ?_
    refine z_iload_n C dX12_laySides_95 1 rfl ?_
    refine z_imul C dX12_laySides_96 ?_
    refine z_dup2 C dX12_laySides_97 rfl rfl ?_
    refine rw_l_M_M_52 C dX12_laySides_98 h (fun h => ?_)
    refine z_iload_n C dX12_laySides_99 1 rfl ?_
    refine z_iload_n C dX12_laySides_100 2 rfl ?_
    refine z_icmp_ne C dX12_laySides_101 108 (by decide) h (fun h => ?_) (fun h => ?_)
    · refine z_aload_n C dX12_laySides_108 0 rfl ?_
      refine rw_g_X12_89_M_M C dX12_laySides_109 ?_
      refine z_iconst C 3 dX12_laySides_112 (by decide) ?_
      refine z_iload_n C dX12_laySides_113 2 rfl ?_
      refine z_imul C dX12_laySides_114 ?_
      refine z_iload_n C dX12_laySides_115 1 rfl ?_
      refine z_iadd C dX12_laySides_116 ?_
      refine rw_l_M_M_47 C dX12_laySides_117 h (fun h => ?_)
      refine z_ladd C dX12_laySides_118 ?_
      refine rw_s_M_M_52 C dX12_laySides_119 h (fun sM2 h => ?_)
      refine z_iinc C dX12_laySides_120 2 rfl 1 (by decide) (by decide) (lvr := [(0, .ref (qM 0)), (1, .int x1)]) rfl h (fun x2_3 h => ?_)
      refine z_goto C dX12_laySides_123 85 (by decide) ?_
      refine z_perm [1, 2, 0] (lv' := [(0, .ref (qM 0)), (1, .int x1), (2, .int x2_3)]) rfl ?_
      exact hK85 _  _ _ h
    · refine z_lconst C 0 dX12_laySides_104 (by decide) ?_
      refine z_goto C dX12_laySides_105 118 (by decide) ?_
      refine z_ladd C dX12_laySides_118 ?_
      refine rw_s_M_M_52 C dX12_laySides_119 h (fun sM4 h => ?_)
      refine z_iinc C dX12_laySides_120 2 rfl 1 (by decide) (by decide) (lvr := [(0, .ref (qM 0)), (1, .int x1)]) rfl h (fun x2_5 h => ?_)
      refine z_goto C dX12_laySides_123 85 (by decide) ?_
      refine z_perm [1, 2, 0] (lv' := [(0, .ref (qM 0)), (1, .int x1), (2, .int x2_5)]) rfl ?_
      exact hK85 _  _ _ h
set_option maxHeartbeats 4000000 in
set_option maxRecDepth 100000 in
theorem kM_laySides_l85 {x : zX} {G : zG} {qM : Nat → Nat}  {out : zSt} (C : zC x G RX12 cX12_laySides 3 none rmX12_laySides) (O : zO x G none (wdM G qM out) 0 0) {K78 : zSt → Int32 → Option (zSt)} (hK78 : ∀ (sM : zSt) (x1 : Int32), K78 sM x1 = some out → zW x G 0 0 78 [(0, .ref (qM 0)), (1, .int x1)] [] (wdM G qM sM)) : ∀ (n : Nat) {sM : zSt} {x1 : Int32} {x2 : Int32}, fM_laySides_l85 K78 n sM x1 x2 = some out → zW x G 0 0 85 [(0, .ref (qM 0)), (1, .int x1), (2, .int x2)] [] (wdM G qM sM) := by
  intro n
  induction n with
  | zero =>
    intro sM x1 x2 h
    have h : (none : Option (zSt)) = some out := h
    cases h
  | succ n ih =>
    intro sM x1 x2 h
    exact kM_laySides_l85b C O hK78 (K85 := fun v0 v1 v2 => fM_laySides_l85 K78 n v0 v1 v2) (fun sM x1 x2 h => ih h) h
set_option maxHeartbeats 4000000 in
set_option maxRecDepth 100000 in
theorem kM_laySides_l78b {x : zX} {G : zG} {qM : Nat → Nat}  {out : zSt} (C : zC x G RX12 cX12_laySides 3 none rmX12_laySides) (O : zO x G none (wdM G qM out) 0 0) {K78 : zSt → Int32 → Option (zSt)} (hK78 : ∀ (sM : zSt) (x1 : Int32), K78 sM x1 = some out → zW x G 0 0 78 [(0, .ref (qM 0)), (1, .int x1)] [] (wdM G qM sM)) {sM : zSt} {x1 : Int32} (h : fM_laySides_l78b K78 sM x1 = some out) : zW x G 0 0 78 [(0, .ref (qM 0)), (1, .int x1)] [] (wdM G qM sM) := by
  unfold fM_laySides_l78b at h
  refine z_iload_n C dX12_laySides_78 1 rfl ?_
  refine z_iconst C 3 dX12_laySides_79 (by decide) ?_
  refine z_icmp_ge C dX12_laySides_80 132 (by decide) h (fun h => ?_) (fun h => ?_)
  · replace h := Option.some.inj h
    subst h
    exact z_vret C O dX12_laySides_132 rfl rfl
  · refine z_iconst C 0 dX12_laySides_83 (by decide) ?_
    refine z_istore_n C dX12_laySides_84 (by decide) (lvr := [(0, .ref (qM 0)), (1, .int x1)]) rfl ?_
    refine z_perm [1, 2, 0] (lv' := [(0, .ref (qM 0)), (1, .int x1), (2, .int 0)]) rfl ?_
    exact kM_laySides_l85 C O hK78 zF h
set_option maxHeartbeats 4000000 in
set_option maxRecDepth 100000 in
theorem kM_laySides_l78 {x : zX} {G : zG} {qM : Nat → Nat}  {out : zSt} (C : zC x G RX12 cX12_laySides 3 none rmX12_laySides) (O : zO x G none (wdM G qM out) 0 0)  : ∀ (n : Nat) {sM : zSt} {x1 : Int32}, fM_laySides_l78  n sM x1 = some out → zW x G 0 0 78 [(0, .ref (qM 0)), (1, .int x1)] [] (wdM G qM sM) := by
  intro n
  induction n with
  | zero =>
    intro sM x1 h
    have h : (none : Option (zSt)) = some out := h
    cases h
  | succ n ih =>
    intro sM x1 h
    exact kM_laySides_l78b C O (K78 := fun v0 v1 => fM_laySides_l78  n v0 v1) (fun sM x1 h => ih h) h
set_option maxHeartbeats 4000000 in
set_option maxRecDepth 100000 in
theorem kM_laySides_l9b {x : zX} {G : zG} {qM : Nat → Nat}  {out : zSt} (C : zC x G RX12 cX12_laySides 3 none rmX12_laySides) (O : zO x G none (wdM G qM out) 0 0) {K2 : zSt → Int32 → Option (zSt)} (hK2 : ∀ (sM : zSt) (x1 : Int32), K2 sM x1 = some out → zW x G 0 0 2 [(0, .ref (qM 0)), (1, .int x1)] [] (wdM G qM sM)) {K9 : zSt → Int32 → Int32 → Option (zSt)} (hK9 : ∀ (sM : zSt) (x1 : Int32) (x2 : Int32), K9 sM x1 x2 = some out → zW x G 0 0 9 [(0, .ref (qM 0)), (1, .int x1), (2, .int x2)] [] (wdM G qM sM)) {sM : zSt} {x1 : Int32} {x2 : Int32} (h : fM_laySides_l9b K2 K9 sM x1 x2 = some out) : zW x G 0 0 9 [(0, .ref (qM 0)), (1, .int x1), (2, .int x2)] [] (wdM G qM sM) := by
  unfold fM_laySides_l9b at h
  refine z_iload_n C dX12_laySides_9 2 rfl ?_
  refine z_iconst C 3 dX12_laySides_10 (by decide) ?_
  refine z_icmp_ge C dX12_laySides_11 70 (by decide) h (fun h => ?_) (fun h => ?_)
  · refine z_iinc C dX12_laySides_70 1 rfl 1 (by decide) (by decide) (lvr := [(0, .ref (qM 0)), (2, .int x2)]) rfl h (fun x1_6 h => ?_)
    refine z_goto C dX12_laySides_73 2 (by decide) ?_
    refine z_perm [1, 0] (lv' := [(0, .ref (qM 0)), (1, .int x1_6)]) rfl ?_
    exact hK2 _  _ h
  · refine z_aload_n C dX12_laySides_14 0 rfl ?_
    refine rw_g_X12_101_M_M C dX12_laySides_15 ?_
    refine z_iconst C 3 dX12_laySides_18 (by decide) ?_
    refine z_iload_n C dX12_laySides_19 1 rfl ?_
    refine z_imul C dX12_laySides_20 ?_
    refine z_iload_n C dX12_laySides_21 2 rfl ?_
    refine z_iadd C dX12_laySides_22 ?_
    refine z_iload_n C dX12_laySides_23 1 rfl ?_
    refine z_iload_n C dX12_laySides_24 2 rfl ?_
    refine z_icmp_ne C dX12_laySides_25 52 (by decide) h (fun h => ?_) (fun h => ?_)
    · refine z_aload_n C dX12_laySides_52 0 rfl ?_
      refine rw_g_X12_89_M_M C dX12_laySides_53 ?_
      refine z_iconst C 3 dX12_laySides_56 (by decide) ?_
      refine z_iload_n C dX12_laySides_57 1 rfl ?_
      refine z_imul C dX12_laySides_58 ?_
      refine z_iload_n C dX12_laySides_59 2 rfl ?_
      refine z_iadd C dX12_laySides_60 ?_
      refine rw_l_M_M_47 C dX12_laySides_61 h (fun h => ?_)
      refine z_lneg C dX12_laySides_62 ?_
      refine rw_s_M_M_52 C dX12_laySides_63 h (fun sM7 h => ?_)
      refine z_iinc C dX12_laySides_64 2 rfl 1 (by decide) (by decide) (lvr := [(0, .ref (qM 0)), (1, .int x1)]) rfl h (fun x2_8 h => ?_)
      refine z_goto C dX12_laySides_67 9 (by decide) ?_
      refine z_perm [1, 2, 0] (lv' := [(0, .ref (qM 0)), (1, .int x1), (2, .int x2_8)]) rfl ?_
      exact hK9 _  _ _ h
    · refine z_aload_n C dX12_laySides_28 0 rfl ?_
      refine rw_g_X12_86_M_M C dX12_laySides_29 ?_
      refine z_iload_n C dX12_laySides_32 1 rfl ?_
      refine rw_l_M_M_46 C dX12_laySides_33 h (fun h => ?_)
      refine z_lconst C 0 dX12_laySides_34 (by decide) ?_
      refine z_lcmp_ne C dX12_laySides_35 dX12_laySides_36 43 (by decide) h (fun h => ?_) (fun h => ?_)
      · refine z_aload_n C dX12_laySides_43 0 rfl ?_
        refine rw_g_X12_86_M_M C dX12_laySides_44 ?_
        refine z_iload_n C dX12_laySides_47 1 rfl ?_
        refine rw_l_M_M_46 C dX12_laySides_48 h (fun h => ?_)
        refine z_goto C dX12_laySides_49 63 (by decide) ?_
        refine rw_s_M_M_52 C dX12_laySides_63 h (fun sM9 h => ?_)
        refine z_iinc C dX12_laySides_64 2 rfl 1 (by decide) (by decide) (lvr := [(0, .ref (qM 0)), (1, .int x1)]) rfl h (fun x2_10 h => ?_)
        refine z_goto C dX12_laySides_67 9 (by decide) ?_
        refine z_perm [1, 2, 0] (lv' := [(0, .ref (qM 0)), (1, .int x1), (2, .int x2_10)]) rfl ?_
        exact hK9 _  _ _ h
      · refine z_lconst C 1 dX12_laySides_39 (by decide) ?_
        refine z_goto C dX12_laySides_40 63 (by decide) ?_
        refine rw_s_M_M_52 C dX12_laySides_63 h (fun sM11 h => ?_)
        refine z_iinc C dX12_laySides_64 2 rfl 1 (by decide) (by decide) (lvr := [(0, .ref (qM 0)), (1, .int x1)]) rfl h (fun x2_12 h => ?_)
        refine z_goto C dX12_laySides_67 9 (by decide) ?_
        refine z_perm [1, 2, 0] (lv' := [(0, .ref (qM 0)), (1, .int x1), (2, .int x2_12)]) rfl ?_
        exact hK9 _  _ _ h
set_option maxHeartbeats 4000000 in
set_option maxRecDepth 100000 in
theorem kM_laySides_l9 {x : zX} {G : zG} {qM : Nat → Nat}  {out : zSt} (C : zC x G RX12 cX12_laySides 3 none rmX12_laySides) (O : zO x G none (wdM G qM out) 0 0) {K2 : zSt → Int32 → Option (zSt)} (hK2 : ∀ (sM : zSt) (x1 : Int32), K2 sM x1 = some out → zW x G 0 0 2 [(0, .ref (qM 0)), (1, .int x1)] [] (wdM G qM sM)) : ∀ (n : Nat) {sM : zSt} {x1 : Int32} {x2 : Int32}, fM_laySides_l9 K2 n sM x1 x2 = some out → zW x G 0 0 9 [(0, .ref (qM 0)), (1, .int x1), (2, .int x2)] [] (wdM G qM sM) := by
  intro n
  induction n with
  | zero =>
    intro sM x1 x2 h
    have h : (none : Option (zSt)) = some out := h
    cases h
  | succ n ih =>
    intro sM x1 x2 h
    exact kM_laySides_l9b C O hK2 (K9 := fun v0 v1 v2 => fM_laySides_l9 K2 n v0 v1 v2) (fun sM x1 x2 h => ih h) h
set_option maxHeartbeats 4000000 in
set_option maxRecDepth 100000 in
theorem kM_laySides_l2b {x : zX} {G : zG} {qM : Nat → Nat}  {out : zSt} (C : zC x G RX12 cX12_laySides 3 none rmX12_laySides) (O : zO x G none (wdM G qM out) 0 0) {K2 : zSt → Int32 → Option (zSt)} (hK2 : ∀ (sM : zSt) (x1 : Int32), K2 sM x1 = some out → zW x G 0 0 2 [(0, .ref (qM 0)), (1, .int x1)] [] (wdM G qM sM)) {sM : zSt} {x1 : Int32} (h : fM_laySides_l2b K2 sM x1 = some out) : zW x G 0 0 2 [(0, .ref (qM 0)), (1, .int x1)] [] (wdM G qM sM) := by
  unfold fM_laySides_l2b at h
  refine z_iload_n C dX12_laySides_2 1 rfl ?_
  refine z_iconst C 3 dX12_laySides_3 (by decide) ?_
  refine z_icmp_ge C dX12_laySides_4 76 (by decide) h (fun h => ?_) (fun h => ?_)
  · refine z_iconst C 0 dX12_laySides_76 (by decide) ?_
    refine z_istore_n C dX12_laySides_77 (by decide) (lvr := [(0, .ref (qM 0))]) rfl ?_
    refine z_perm [1, 0] (lv' := [(0, .ref (qM 0)), (1, .int 0)]) rfl ?_
    exact kM_laySides_l78 C O  zF h
  · refine z_iconst C 0 dX12_laySides_7 (by decide) ?_
    refine z_istore_n C dX12_laySides_8 (by decide) (lvr := [(0, .ref (qM 0)), (1, .int x1)]) rfl ?_
    refine z_perm [1, 2, 0] (lv' := [(0, .ref (qM 0)), (1, .int x1), (2, .int 0)]) rfl ?_
    exact kM_laySides_l9 C O hK2 zF h
set_option maxHeartbeats 4000000 in
set_option maxRecDepth 100000 in
theorem kM_laySides_l2 {x : zX} {G : zG} {qM : Nat → Nat}  {out : zSt} (C : zC x G RX12 cX12_laySides 3 none rmX12_laySides) (O : zO x G none (wdM G qM out) 0 0)  : ∀ (n : Nat) {sM : zSt} {x1 : Int32}, fM_laySides_l2  n sM x1 = some out → zW x G 0 0 2 [(0, .ref (qM 0)), (1, .int x1)] [] (wdM G qM sM) := by
  intro n
  induction n with
  | zero =>
    intro sM x1 h
    have h : (none : Option (zSt)) = some out := h
    cases h
  | succ n ih =>
    intro sM x1 h
    exact kM_laySides_l2b C O (K2 := fun v0 v1 => fM_laySides_l2  n v0 v1) (fun sM x1 h => ih h) h
set_option maxHeartbeats 4000000 in
set_option maxRecDepth 100000 in
theorem cM_laySides {l : Launch} {G : zG} {qM : Nat → Nat} {sM : zSt}  {out : zSt} (h : fM_laySides sM  = some out) : Ct l G yX12_laySides cX12_laySides 3 none rmX12_laySides [.ref (qM 0)] (wdM G qM sM) none (wdM G qM out) := by
  refine zMet (own := RX12) rfl (by decide) (Nat.le_of_ble_eq_true rfl) (fun x hl C O => ?_)
  show zW x G 0 0 0 [(0, .ref (qM 0))] [] _
  unfold fM_laySides at h
  refine z_iconst C 0 dX12_laySides_0 (by decide) ?_
  refine z_istore_n C dX12_laySides_1 (by decide) (lvr := [(0, .ref (qM 0))]) rfl ?_
  refine z_perm [1, 0] (lv' := [(0, .ref (qM 0)), (1, .int 0)]) rfl ?_
  exact kM_laySides_l2 C O  zF h
set_option maxHeartbeats 4000000 in
set_option maxRecDepth 100000 in
theorem kM_layNets_b193 {x : zX} {G : zG} {qM : Nat → Nat}  {out : zSt} (C : zC x G RX12 cX12_layNets 3 none rmX12_layNets) (O : zO x G none (wdM G qM out) 0 0) {K119 : zSt → Int32 → Option (zSt)} (hK119 : ∀ (sM : zSt) (x1 : Int32), K119 sM x1 = some out → zW x G 0 0 119 [(0, .ref (qM 0)), (1, .int x1)] [] (wdM G qM sM)) {sM : zSt} {x1 : Int32} {t0 : Int64} {t1 : Int32} (h : fM_layNets_b193 K119 sM x1 t0 t1 = some out) : zW x G 0 0 193 [(0, .ref (qM 0)), (1, .int x1)] [.long t0, .int t1, .ref (qM 51)] (wdM G qM sM) := by
  unfold fM_layNets_b193 at h
  refine z_aload_n C dX12_layNets_193 0 rfl ?_
  refine rw_g_X12_98_M_M C dX12_layNets_194 ?_
  refine z_iload_n C dX12_layNets_197 1 rfl ?_
  refine rw_l_M_M_51 C dX12_layNets_198 h (fun h => ?_)
  refine z_lmul C dX12_layNets_199 ?_
  refine rw_s_M_M_50 C dX12_layNets_200 h (fun sM8 h => ?_)
  refine z_iinc C dX12_layNets_201 1 rfl 1 (by decide) (by decide) (lvr := [(0, .ref (qM 0))]) rfl h (fun x1_9 h => ?_)
  refine z_goto C dX12_layNets_204 119 (by decide) ?_
  refine z_perm [1, 0] (lv' := [(0, .ref (qM 0)), (1, .int x1_9)]) rfl ?_
  exact hK119 _  _ h
set_option maxHeartbeats 4000000 in
set_option maxRecDepth 100000 in
theorem kM_layNets_l130b {x : zX} {G : zG} {qM : Nat → Nat}  {out : zSt} (C : zC x G RX12 cX12_layNets 3 none rmX12_layNets) (O : zO x G none (wdM G qM out) 0 0) {K119 : zSt → Int32 → Option (zSt)} (hK119 : ∀ (sM : zSt) (x1 : Int32), K119 sM x1 = some out → zW x G 0 0 119 [(0, .ref (qM 0)), (1, .int x1)] [] (wdM G qM sM)) {K130 : zSt → Int32 → Int32 → Option (zSt)} (hK130 : ∀ (sM : zSt) (x1 : Int32) (x2 : Int32), K130 sM x1 x2 = some out → zW x G 0 0 130 [(0, .ref (qM 0)), (1, .int x1), (2, .int x2)] [] (wdM G qM sM)) {sM : zSt} {x1 : Int32} {x2 : Int32} (h : fM_layNets_l130b K119 K130 sM x1 x2 = some out) : zW x G 0 0 130 [(0, .ref (qM 0)), (1, .int x1), (2, .int x2)] [] (wdM G qM sM) := by
  unfold fM_layNets_l130b at h
  refine z_iload_n C dX12_layNets_130 2 rfl ?_
  refine z_iconst C 3 dX12_layNets_131 (by decide) ?_
  refine z_icmp_ge C dX12_layNets_132 157 (by decide) h (fun h => ?_) (fun h => ?_)
  · refine z_aload_n C dX12_layNets_157 0 rfl ?_
    refine rw_g_X12_98_M_M C dX12_layNets_158 ?_
    refine z_iload_n C dX12_layNets_161 1 rfl ?_
    refine z_aload_n C dX12_layNets_162 0 rfl ?_
    obtain ⟨y6, hy6, h⟩ := bind_o h
    refine rw_c_X12_356 C (cM_determinant hy6) 0 rfl dX12_layNets_163 (Nat.le_of_ble_eq_true rfl) (zrm rfl) ?_
    refine rw_s_M_M_51 C dX12_layNets_166 h (fun sM7 h => ?_)
    refine z_aload_n C dX12_layNets_167 0 rfl ?_
    refine rw_g_X12_95_M_M C dX12_layNets_168 ?_
    refine z_iload_n C dX12_layNets_171 1 rfl ?_
    refine z_aload_n C dX12_layNets_172 0 rfl ?_
    refine rw_g_X12_86_M_M C dX12_layNets_173 ?_
    refine z_iload_n C dX12_layNets_176 1 rfl ?_
    refine rw_l_M_M_46 C dX12_layNets_177 h (fun h => ?_)
    refine z_lconst C 0 dX12_layNets_178 (by decide) ?_
    refine z_lcmp_ne C dX12_layNets_179 dX12_layNets_180 187 (by decide) h (fun h => ?_) (fun h => ?_)
    · refine z_aload_n C dX12_layNets_187 0 rfl ?_
      refine rw_g_X12_86_M_M C dX12_layNets_188 ?_
      refine z_iload_n C dX12_layNets_191 1 rfl ?_
      refine rw_l_M_M_46 C dX12_layNets_192 h (fun h => ?_)
      refine z_perm [0, 1] (lv' := [(0, .ref (qM 0)), (1, .int x1)]) rfl ?_
      exact kM_layNets_b193 C O hK119 h
    · refine z_lconst C 1 dX12_layNets_183 (by decide) ?_
      refine z_goto C dX12_layNets_184 193 (by decide) ?_
      refine z_perm [0, 1] (lv' := [(0, .ref (qM 0)), (1, .int x1)]) rfl ?_
      exact kM_layNets_b193 C O hK119 h
  · refine z_aload_n C dX12_layNets_135 0 rfl ?_
    refine rw_g_X12_101_M_M C dX12_layNets_136 ?_
    refine z_iconst C 3 dX12_layNets_139 (by decide) ?_
    refine z_iload_n C dX12_layNets_140 2 rfl ?_
    refine z_imul C dX12_layNets_141 ?_
    refine z_iload_n C dX12_layNets_142 1 rfl ?_
    refine z_iadd C dX12_layNets_143 ?_
    refine z_aload_n C dX12_layNets_144 0 rfl ?_
    refine rw_g_X12_82_M_M C dX12_layNets_145 ?_
    refine z_iload_n C dX12_layNets_148 2 rfl ?_
    refine rw_l_M_M_45 C dX12_layNets_149 h (fun h => ?_)
    refine rw_s_M_M_52 C dX12_layNets_150 h (fun sM10 h => ?_)
    refine z_iinc C dX12_layNets_151 2 rfl 1 (by decide) (by decide) (lvr := [(0, .ref (qM 0)), (1, .int x1)]) rfl h (fun x2_11 h => ?_)
    refine z_goto C dX12_layNets_154 130 (by decide) ?_
    refine z_perm [1, 2, 0] (lv' := [(0, .ref (qM 0)), (1, .int x1), (2, .int x2_11)]) rfl ?_
    exact hK130 _  _ _ h
set_option maxHeartbeats 4000000 in
set_option maxRecDepth 100000 in
theorem kM_layNets_l130 {x : zX} {G : zG} {qM : Nat → Nat}  {out : zSt} (C : zC x G RX12 cX12_layNets 3 none rmX12_layNets) (O : zO x G none (wdM G qM out) 0 0) {K119 : zSt → Int32 → Option (zSt)} (hK119 : ∀ (sM : zSt) (x1 : Int32), K119 sM x1 = some out → zW x G 0 0 119 [(0, .ref (qM 0)), (1, .int x1)] [] (wdM G qM sM)) : ∀ (n : Nat) {sM : zSt} {x1 : Int32} {x2 : Int32}, fM_layNets_l130 K119 n sM x1 x2 = some out → zW x G 0 0 130 [(0, .ref (qM 0)), (1, .int x1), (2, .int x2)] [] (wdM G qM sM) := by
  intro n
  induction n with
  | zero =>
    intro sM x1 x2 h
    have h : (none : Option (zSt)) = some out := h
    cases h
  | succ n ih =>
    intro sM x1 x2 h
    exact kM_layNets_l130b C O hK119 (K130 := fun v0 v1 v2 => fM_layNets_l130 K119 n v0 v1 v2) (fun sM x1 x2 h => ih h) h
set_option maxHeartbeats 4000000 in
set_option maxRecDepth 100000 in
theorem kM_layNets_l119b {x : zX} {G : zG} {qM : Nat → Nat}  {out : zSt} (C : zC x G RX12 cX12_layNets 3 none rmX12_layNets) (O : zO x G none (wdM G qM out) 0 0) {K119 : zSt → Int32 → Option (zSt)} (hK119 : ∀ (sM : zSt) (x1 : Int32), K119 sM x1 = some out → zW x G 0 0 119 [(0, .ref (qM 0)), (1, .int x1)] [] (wdM G qM sM)) {sM : zSt} {x1 : Int32} (h : fM_layNets_l119b K119 sM x1 = some out) : zW x G 0 0 119 [(0, .ref (qM 0)), (1, .int x1)] [] (wdM G qM sM) := by
  unfold fM_layNets_l119b at h
  refine z_iload_n C dX12_layNets_119 1 rfl ?_
  refine z_iconst C 3 dX12_layNets_120 (by decide) ?_
  refine z_icmp_ge C dX12_layNets_121 207 (by decide) h (fun h => ?_) (fun h => ?_)
  · replace h := Option.some.inj h
    subst h
    exact z_vret C O dX12_layNets_207 rfl rfl
  · refine z_aload_n C dX12_layNets_124 0 rfl ?_
    obtain ⟨y5, hy5, h⟩ := bind_o h
    refine rw_c_X12_353 C (cM_laySides hy5) 0 rfl dX12_layNets_125 (Nat.le_of_ble_eq_true rfl) (zrm rfl) ?_
    refine z_iconst C 0 dX12_layNets_128 (by decide) ?_
    refine z_istore_n C dX12_layNets_129 (by decide) (lvr := [(0, .ref (qM 0)), (1, .int x1)]) rfl ?_
    refine z_perm [1, 2, 0] (lv' := [(0, .ref (qM 0)), (1, .int x1), (2, .int 0)]) rfl ?_
    exact kM_layNets_l130 C O hK119 zF h
set_option maxHeartbeats 4000000 in
set_option maxRecDepth 100000 in
theorem kM_layNets_l119 {x : zX} {G : zG} {qM : Nat → Nat}  {out : zSt} (C : zC x G RX12 cX12_layNets 3 none rmX12_layNets) (O : zO x G none (wdM G qM out) 0 0)  : ∀ (n : Nat) {sM : zSt} {x1 : Int32}, fM_layNets_l119  n sM x1 = some out → zW x G 0 0 119 [(0, .ref (qM 0)), (1, .int x1)] [] (wdM G qM sM) := by
  intro n
  induction n with
  | zero =>
    intro sM x1 h
    have h : (none : Option (zSt)) = some out := h
    cases h
  | succ n ih =>
    intro sM x1 h
    exact kM_layNets_l119b C O (K119 := fun v0 v1 => fM_layNets_l119  n v0 v1) (fun sM x1 h => ih h) h
set_option maxHeartbeats 4000000 in
set_option maxRecDepth 100000 in
theorem kM_layNets_l48b {x : zX} {G : zG} {qM : Nat → Nat}  {out : zSt} (C : zC x G RX12 cX12_layNets 3 none rmX12_layNets) (O : zO x G none (wdM G qM out) 0 0) {K29 : zSt → Int32 → Option (zSt)} (hK29 : ∀ (sM : zSt) (x1 : Int32), K29 sM x1 = some out → zW x G 0 0 29 [(0, .ref (qM 0)), (1, .int x1)] [] (wdM G qM sM)) {K48 : zSt → Int32 → Int32 → Option (zSt)} (hK48 : ∀ (sM : zSt) (x1 : Int32) (x2 : Int32), K48 sM x1 x2 = some out → zW x G 0 0 48 [(0, .ref (qM 0)), (1, .int x1), (2, .int x2)] [] (wdM G qM sM)) {sM : zSt} {x1 : Int32} {x2 : Int32} (h : fM_layNets_l48b K29 K48 sM x1 x2 = some out) : zW x G 0 0 48 [(0, .ref (qM 0)), (1, .int x1), (2, .int x2)] [] (wdM G qM sM) := by
  unfold fM_layNets_l48b at h
  refine z_iload_n C dX12_layNets_48 2 rfl ?_
  refine z_iconst C 3 dX12_layNets_49 (by decide) ?_
  refine z_icmp_ge C dX12_layNets_50 98 (by decide) h (fun h => ?_) (fun h => ?_)
  · refine z_iinc C dX12_layNets_98 1 rfl 1 (by decide) (by decide) (lvr := [(0, .ref (qM 0)), (2, .int x2)]) rfl h (fun x1_14 h => ?_)
    refine z_goto C dX12_layNets_101 29 (by decide) ?_
    refine z_perm [1, 0] (lv' := [(0, .ref (qM 0)), (1, .int x1_14)]) rfl ?_
    exact hK29 _  _ h
  · refine z_aload_n C dX12_layNets_53 0 rfl ?_
    refine rw_g_X12_95_M_M C dX12_layNets_54 ?_
    refine z_iload_n C dX12_layNets_57 1 rfl ?_
    refine z_dup2 C dX12_layNets_58 rfl rfl ?_
    refine rw_l_M_M_50 C dX12_layNets_59 h (fun h => ?_)
    refine z_iload_n C dX12_layNets_60 1 rfl ?_
    refine z_iload_n C dX12_layNets_61 2 rfl ?_
    refine z_icmp_ne C dX12_layNets_62 69 (by decide) h (fun h => ?_) (fun h => ?_)
    · refine z_aload_n C dX12_layNets_69 0 rfl ?_
      refine rw_g_X12_92_M_M C dX12_layNets_70 ?_
      refine z_iconst C 3 dX12_layNets_73 (by decide) ?_
      refine z_iload_n C dX12_layNets_74 1 rfl ?_
      refine z_imul C dX12_layNets_75 ?_
      refine z_iload_n C dX12_layNets_76 2 rfl ?_
      refine z_iadd C dX12_layNets_77 ?_
      refine rw_l_M_M_48 C dX12_layNets_78 h (fun h => ?_)
      refine z_aload_n C dX12_layNets_79 0 rfl ?_
      refine rw_g_X12_92_M_M C dX12_layNets_80 ?_
      refine z_iconst C 3 dX12_layNets_83 (by decide) ?_
      refine z_iload_n C dX12_layNets_84 2 rfl ?_
      refine z_imul C dX12_layNets_85 ?_
      refine z_iload_n C dX12_layNets_86 1 rfl ?_
      refine z_iadd C dX12_layNets_87 ?_
      refine rw_l_M_M_48 C dX12_layNets_88 h (fun h => ?_)
      refine z_lsub C dX12_layNets_89 ?_
      refine z_ladd C dX12_layNets_90 ?_
      refine rw_s_M_M_50 C dX12_layNets_91 h (fun sM15 h => ?_)
      refine z_iinc C dX12_layNets_92 2 rfl 1 (by decide) (by decide) (lvr := [(0, .ref (qM 0)), (1, .int x1)]) rfl h (fun x2_16 h => ?_)
      refine z_goto C dX12_layNets_95 48 (by decide) ?_
      refine z_perm [1, 2, 0] (lv' := [(0, .ref (qM 0)), (1, .int x1), (2, .int x2_16)]) rfl ?_
      exact hK48 _  _ _ h
    · refine z_lconst C 0 dX12_layNets_65 (by decide) ?_
      refine z_goto C dX12_layNets_66 90 (by decide) ?_
      refine z_ladd C dX12_layNets_90 ?_
      refine rw_s_M_M_50 C dX12_layNets_91 h (fun sM17 h => ?_)
      refine z_iinc C dX12_layNets_92 2 rfl 1 (by decide) (by decide) (lvr := [(0, .ref (qM 0)), (1, .int x1)]) rfl h (fun x2_18 h => ?_)
      refine z_goto C dX12_layNets_95 48 (by decide) ?_
      refine z_perm [1, 2, 0] (lv' := [(0, .ref (qM 0)), (1, .int x1), (2, .int x2_18)]) rfl ?_
      exact hK48 _  _ _ h
set_option maxHeartbeats 4000000 in
set_option maxRecDepth 100000 in
theorem kM_layNets_l48 {x : zX} {G : zG} {qM : Nat → Nat}  {out : zSt} (C : zC x G RX12 cX12_layNets 3 none rmX12_layNets) (O : zO x G none (wdM G qM out) 0 0) {K29 : zSt → Int32 → Option (zSt)} (hK29 : ∀ (sM : zSt) (x1 : Int32), K29 sM x1 = some out → zW x G 0 0 29 [(0, .ref (qM 0)), (1, .int x1)] [] (wdM G qM sM)) : ∀ (n : Nat) {sM : zSt} {x1 : Int32} {x2 : Int32}, fM_layNets_l48 K29 n sM x1 x2 = some out → zW x G 0 0 48 [(0, .ref (qM 0)), (1, .int x1), (2, .int x2)] [] (wdM G qM sM) := by
  intro n
  induction n with
  | zero =>
    intro sM x1 x2 h
    have h : (none : Option (zSt)) = some out := h
    cases h
  | succ n ih =>
    intro sM x1 x2 h
    exact kM_layNets_l48b C O hK29 (K48 := fun v0 v1 v2 => fM_layNets_l48 K29 n v0 v1 v2) (fun sM x1 x2 h => ih h) h
set_option maxHeartbeats 4000000 in
set_option maxRecDepth 100000 in
theorem kM_layNets_l29b {x : zX} {G : zG} {qM : Nat → Nat}  {out : zSt} (C : zC x G RX12 cX12_layNets 3 none rmX12_layNets) (O : zO x G none (wdM G qM out) 0 0) {K29 : zSt → Int32 → Option (zSt)} (hK29 : ∀ (sM : zSt) (x1 : Int32), K29 sM x1 = some out → zW x G 0 0 29 [(0, .ref (qM 0)), (1, .int x1)] [] (wdM G qM sM)) {sM : zSt} {x1 : Int32} (h : fM_layNets_l29b K29 sM x1 = some out) : zW x G 0 0 29 [(0, .ref (qM 0)), (1, .int x1)] [] (wdM G qM sM) := by
  unfold fM_layNets_l29b at h
  refine z_iload_n C dX12_layNets_29 1 rfl ?_
  refine z_iconst C 3 dX12_layNets_30 (by decide) ?_
  refine z_icmp_ge C dX12_layNets_31 104 (by decide) h (fun h => ?_) (fun h => ?_)
  · replace h := Option.some.inj h
    subst h
    exact z_vret C O dX12_layNets_104 rfl rfl
  · refine z_aload_n C dX12_layNets_34 0 rfl ?_
    refine rw_g_X12_95_M_M C dX12_layNets_35 ?_
    refine z_iload_n C dX12_layNets_38 1 rfl ?_
    refine z_aload_n C dX12_layNets_39 0 rfl ?_
    refine rw_g_X12_82_M_M C dX12_layNets_40 ?_
    refine z_iload_n C dX12_layNets_43 1 rfl ?_
    refine rw_l_M_M_45 C dX12_layNets_44 h (fun h => ?_)
    refine rw_s_M_M_50 C dX12_layNets_45 h (fun sM13 h => ?_)
    refine z_iconst C 0 dX12_layNets_46 (by decide) ?_
    refine z_istore_n C dX12_layNets_47 (by decide) (lvr := [(0, .ref (qM 0)), (1, .int x1)]) rfl ?_
    refine z_perm [1, 2, 0] (lv' := [(0, .ref (qM 0)), (1, .int x1), (2, .int 0)]) rfl ?_
    exact kM_layNets_l48 C O hK29 zF h
set_option maxHeartbeats 4000000 in
set_option maxRecDepth 100000 in
theorem kM_layNets_l29 {x : zX} {G : zG} {qM : Nat → Nat}  {out : zSt} (C : zC x G RX12 cX12_layNets 3 none rmX12_layNets) (O : zO x G none (wdM G qM out) 0 0)  : ∀ (n : Nat) {sM : zSt} {x1 : Int32}, fM_layNets_l29  n sM x1 = some out → zW x G 0 0 29 [(0, .ref (qM 0)), (1, .int x1)] [] (wdM G qM sM) := by
  intro n
  induction n with
  | zero =>
    intro sM x1 h
    have h : (none : Option (zSt)) = some out := h
    cases h
  | succ n ih =>
    intro sM x1 h
    exact kM_layNets_l29b C O (K29 := fun v0 v1 => fM_layNets_l29  n v0 v1) (fun sM x1 h => ih h) h
set_option maxHeartbeats 4000000 in
set_option maxRecDepth 100000 in
theorem cM_layNets {l : Launch} {G : zG} {qM : Nat → Nat} {sM : zSt}  {out : zSt} (h : fM_layNets sM  = some out) : Ct l G yX12_layNets cX12_layNets 3 none rmX12_layNets [.ref (qM 0)] (wdM G qM sM) none (wdM G qM out) := by
  refine zMet (own := RX12) rfl (by decide) (Nat.le_of_ble_eq_true rfl) (fun x hl C O => ?_)
  show zW x G 0 0 0 [(0, .ref (qM 0))] [] _
  unfold fM_layNets at h
  refine z_aload_n C dX12_layNets_0 0 rfl ?_
  obtain ⟨y1, hy1, h⟩ := bind_o h
  refine rw_c_X12_342 C (cM_laySums hy1) 0 rfl dX12_layNets_1 (Nat.le_of_ble_eq_true rfl) (zrm rfl) ?_
  refine z_aload_n C dX12_layNets_4 0 rfl ?_
  refine rw_g_X12_19_M_M C dX12_layNets_5 ?_
  refine z_bipush C 8 dX12_layNets_8 (by decide) ?_
  refine z_aload_n C dX12_layNets_10 0 rfl ?_
  refine rw_g_X12_288_M_M C dX12_layNets_11 ?_
  refine z_imul C dX12_layNets_14 ?_
  refine z_iconst C 5 dX12_layNets_15 (by decide) ?_
  refine z_iadd C dX12_layNets_16 ?_
  refine rw_l_M_M_9 C dX12_layNets_17 h (fun h => ?_)
  refine z_iconst C 1 dX12_layNets_18 (by decide) ?_
  refine z_icmp_eq C dX12_layNets_19 105 (by decide) h (fun h => ?_) (fun h => ?_)
  · refine z_aload_n C dX12_layNets_105 0 rfl ?_
    obtain ⟨y2, hy2, h⟩ := bind_o h
    refine rw_c_X12_353 C (cM_laySides hy2) 0 rfl dX12_layNets_106 (Nat.le_of_ble_eq_true rfl) (zrm rfl) ?_
    refine z_aload_n C dX12_layNets_109 0 rfl ?_
    refine z_aload_n C dX12_layNets_110 0 rfl ?_
    obtain ⟨y3, hy3, h⟩ := bind_o h
    refine rw_c_X12_356 C (cM_determinant hy3) 0 rfl dX12_layNets_111 (Nat.le_of_ble_eq_true rfl) (zrm rfl) ?_
    refine rw_p_X12_349_M_M C dX12_layNets_114 h (fun sM4 h => ?_)
    refine z_iconst C 0 dX12_layNets_117 (by decide) ?_
    refine z_istore_n C dX12_layNets_118 (by decide) (lvr := [(0, .ref (qM 0))]) rfl ?_
    refine z_perm [1, 0] (lv' := [(0, .ref (qM 0)), (1, .int 0)]) rfl ?_
    exact kM_layNets_l119 C O  zF h
  · refine z_aload_n C dX12_layNets_22 0 rfl ?_
    refine z_lconst C 1 dX12_layNets_23 (by decide) ?_
    refine rw_p_X12_349_M_M C dX12_layNets_24 h (fun sM12 h => ?_)
    refine z_iconst C 0 dX12_layNets_27 (by decide) ?_
    refine z_istore_n C dX12_layNets_28 (by decide) (lvr := [(0, .ref (qM 0))]) rfl ?_
    refine z_perm [1, 0] (lv' := [(0, .ref (qM 0)), (1, .int 0)]) rfl ?_
    exact kM_layNets_l29 C O  zF h
set_option maxHeartbeats 4000000 in
set_option maxRecDepth 100000 in
theorem kM_partOf_l17b {x : zX} {G : zG}   {out : Int64} (C : zC x G RX12 cX12_partOf 11 (some .long) rmX12_partOf) (O : zO x G (some (.long out)) ([]) 0 0) {K17 : Int64 → Int64 → Int32 → Int64 → Int64 → Option (Int64)} (hK17 : ∀  (x0 : Int64) (x2 : Int64) (x4 : Int32) (x5 : Int64) (x7 : Int64), K17  x0 x2 x4 x5 x7 = some out → zW x G 0 0 17 [(0, .long x0), (2, .long x2), (4, .int x4), (5, .long x5), (7, .long x7)] [] ([]))  {x0 : Int64} {x2 : Int64} {x4 : Int32} {x5 : Int64} {x7 : Int64} (h : fM_partOf_l17b K17  x0 x2 x4 x5 x7 = some out) : zW x G 0 0 17 [(0, .long x0), (2, .long x2), (4, .int x4), (5, .long x5), (7, .long x7)] [] ([]) := by
  unfold fM_partOf_l17b at h
  refine z_lload C dX12_partOf_17 4 rfl ?_
  refine z_lconst C 0 dX12_partOf_19 (by decide) ?_
  refine z_lcmp_eq C dX12_partOf_20 dX12_partOf_21 42 (by decide) h (fun h => ?_) (fun h => ?_)
  · refine z_iload C dX12_partOf_42 2 rfl ?_
    refine z_if_ne C dX12_partOf_44 51 (by decide) h (fun h => ?_) (fun h => ?_)
    · refine z_lload_n C dX12_partOf_51 1 rfl ?_
      refine z_lload C dX12_partOf_52 3 rfl ?_
      refine z_ldiv C dX12_partOf_54 h (fun h => ?_)
      replace h := Option.some.inj h
      subst h
      exact z_lret C O dX12_partOf_55 rfl rfl
    · refine z_lload_n C dX12_partOf_47 0 rfl ?_
      refine z_goto C dX12_partOf_48 52 (by decide) ?_
      refine z_lload C dX12_partOf_52 3 rfl ?_
      refine z_ldiv C dX12_partOf_54 h (fun h => ?_)
      replace h := Option.some.inj h
      subst h
      exact z_lret C O dX12_partOf_55 rfl rfl
  · refine z_lload C dX12_partOf_24 3 rfl ?_
    refine z_lload C dX12_partOf_26 4 rfl ?_
    refine z_lrem C dX12_partOf_28 h (fun h => ?_)
    refine z_lstoreN C dX12_partOf_29 (by decide) (lvr := [(0, .long x0), (2, .long x2), (4, .int x4), (5, .long x5), (7, .long x7)]) rfl h (fun x9_1 h => ?_)
    refine z_lload C dX12_partOf_31 5 rfl ?_
    refine z_lstore C dX12_partOf_33 (by decide) (lvr := [(9, .long x9_1), (0, .long x0), (2, .long x2), (4, .int x4), (7, .long x7)]) rfl ?_
    refine z_lload C dX12_partOf_35 1 rfl ?_
    refine z_lstore C dX12_partOf_37 (by decide) (lvr := [(5, .long x7), (9, .long x9_1), (0, .long x0), (2, .long x2), (4, .int x4)]) rfl ?_
    refine z_goto C dX12_partOf_39 17 (by decide) ?_
    refine z_perm [3, 4, 5, 1, 0] (lv' := [(0, .long x0), (2, .long x2), (4, .int x4), (5, .long x7), (7, .long x9_1)]) rfl ?_
    exact hK17   _ _ _ _ _ h
set_option maxHeartbeats 4000000 in
set_option maxRecDepth 100000 in
theorem kM_partOf_l17 {x : zX} {G : zG}   {out : Int64} (C : zC x G RX12 cX12_partOf 11 (some .long) rmX12_partOf) (O : zO x G (some (.long out)) ([]) 0 0)  : ∀ (n : Nat)  {x0 : Int64} {x2 : Int64} {x4 : Int32} {x5 : Int64} {x7 : Int64}, fM_partOf_l17  n  x0 x2 x4 x5 x7 = some out → zW x G 0 0 17 [(0, .long x0), (2, .long x2), (4, .int x4), (5, .long x5), (7, .long x7)] [] ([]) := by
  intro n
  induction n with
  | zero =>
    intro  x0 x2 x4 x5 x7 h
    have h : (none : Option (Int64)) = some out := h
    cases h
  | succ n ih =>
    intro  x0 x2 x4 x5 x7 h
    exact kM_partOf_l17b C O (K17 := fun v0 v1 v2 v3 v4 => fM_partOf_l17  n v0 v1 v2 v3 v4) (fun  x0 x2 x4 x5 x7 h => ih h) h
set_option maxHeartbeats 4000000 in
set_option maxRecDepth 100000 in
theorem cM_partOf {l : Launch} {G : zG}   {a0 : Int64} {a1 : Int64} {a2 : Int32} {out : Int64} (h : fM_partOf  a0 a1 a2 = some out) : Ct l G yX12_partOf cX12_partOf 11 (some .long) rmX12_partOf [.long a0, .long a1, .int a2] ([]) (some (.long out)) ([]) := by
  refine zMet (own := RX12) rfl (by decide) (Nat.le_of_ble_eq_true rfl) (fun x hl C O => ?_)
  show zW x G 0 0 0 [(0, .long a0), (2, .long a1), (4, .int a2)] [] _
  unfold fM_partOf at h
  refine z_lload_n C dX12_partOf_0 0 rfl ?_
  refine z_lconst C 0 dX12_partOf_1 (by decide) ?_
  refine z_lcmp_ge C dX12_partOf_2 dX12_partOf_3 11 (by decide) h (fun h => ?_) (fun h => ?_)
  · refine z_lload_n C dX12_partOf_11 0 rfl ?_
    refine z_lstore C dX12_partOf_12 (by decide) (lvr := [(0, .long a0), (2, .long a1), (4, .int a2)]) rfl ?_
    refine z_lload_n C dX12_partOf_14 2 rfl ?_
    refine z_lstore C dX12_partOf_15 (by decide) (lvr := [(5, .long a0), (0, .long a0), (2, .long a1), (4, .int a2)]) rfl ?_
    refine z_perm [2, 3, 4, 1, 0] (lv' := [(0, .long a0), (2, .long a1), (4, .int a2), (5, .long a0), (7, .long a1)]) rfl ?_
    exact kM_partOf_l17 C O  zF h
  · refine z_lload_n C dX12_partOf_6 0 rfl ?_
    refine z_lneg C dX12_partOf_7 ?_
    refine z_goto C dX12_partOf_8 12 (by decide) ?_
    refine z_lstoreN C dX12_partOf_12 (by decide) (lvr := [(0, .long a0), (2, .long a1), (4, .int a2)]) rfl h (fun x5_2 h => ?_)
    refine z_lload_n C dX12_partOf_14 2 rfl ?_
    refine z_lstore C dX12_partOf_15 (by decide) (lvr := [(5, .long x5_2), (0, .long a0), (2, .long a1), (4, .int a2)]) rfl ?_
    refine z_perm [2, 3, 4, 1, 0] (lv' := [(0, .long a0), (2, .long a1), (4, .int a2), (5, .long x5_2), (7, .long a1)]) rfl ?_
    exact kM_partOf_l17 C O  zF h
set_option maxHeartbeats 4000000 in
set_option maxRecDepth 100000 in
theorem cM_owed {l : Launch} {G : zG} {qM : Nat → Nat} {sM : zSt} {a0 : Int32} {a1 : Int32} {a2 : Int32} {out : Int64 × zSt} (h : fM_owed sM a0 a1 a2 = some out) : Ct l G yX12_owed cX12_owed 4 (some .long) rmX12_owed [.ref (qM 0), .int a0, .int a1, .int a2] (wdM G qM sM) (some (.long out.1)) (wdM G qM out.2) := by
  refine zMet (own := RX12) rfl (by decide) (Nat.le_of_ble_eq_true rfl) (fun x hl C O => ?_)
  show zW x G 0 0 0 [(0, .ref (qM 0)), (1, .int a0), (2, .int a1), (3, .int a2)] [] _
  unfold fM_owed at h
  refine z_aload_n C dX12_owed_0 0 rfl ?_
  refine z_iconst C 0 dX12_owed_1 (by decide) ?_
  refine rw_p_X12_107_M_M C dX12_owed_2 h (fun sM1 h => ?_)
  refine z_aload_n C dX12_owed_5 0 rfl ?_
  refine z_iload_n C dX12_owed_6 1 rfl ?_
  obtain ⟨y2, hy2, h⟩ := bind_o h
  refine rw_c_X12_337 C (cM_isPurse hy2) 0 rfl dX12_owed_7 (Nat.le_of_ble_eq_true rfl) (zrm rfl) ?_
  refine z_ifb_eq C dX12_owed_10 36 (by decide) h (fun h => ?_) (fun h => ?_)
  · refine z_ldc2 C rw_u_1138 dX12_owed_36 ?_
    replace h := Option.some.inj h
    subst h
    exact z_lret C O dX12_owed_39 rfl rfl
  · refine z_aload_n C dX12_owed_13 0 rfl ?_
    refine z_iload_n C dX12_owed_14 2 rfl ?_
    obtain ⟨y3, hy3, h⟩ := bind_o h
    refine rw_c_X12_337 C (cM_isPurse hy3) 0 rfl dX12_owed_15 (Nat.le_of_ble_eq_true rfl) (zrm rfl) ?_
    refine z_ifb_eq C dX12_owed_18 36 (by decide) h (fun h => ?_) (fun h => ?_)
    · refine z_ldc2 C rw_u_1138 dX12_owed_36 ?_
      replace h := Option.some.inj h
      subst h
      exact z_lret C O dX12_owed_39 rfl rfl
    · refine z_iload_n C dX12_owed_21 1 rfl ?_
      refine z_iload_n C dX12_owed_22 2 rfl ?_
      refine z_icmp_eq C dX12_owed_23 36 (by decide) h (fun h => ?_) (fun h => ?_)
      · refine z_ldc2 C rw_u_1138 dX12_owed_36 ?_
        replace h := Option.some.inj h
        subst h
        exact z_lret C O dX12_owed_39 rfl rfl
      · refine z_iload_n C dX12_owed_26 3 rfl ?_
        refine z_i2l C dX12_owed_27 ?_
        refine z_lconst C 0 dX12_owed_28 (by decide) ?_
        refine z_lconst C 1 dX12_owed_29 (by decide) ?_
        obtain ⟨y4, hy4, h⟩ := bind_o h
        refine rw_c_X12_118 C (Ct.frame0 (cM_in hy4)) dX12_owed_30 (Nat.le_of_ble_eq_true rfl) (zrm rfl) ?_
        refine z_ifb_ne C dX12_owed_33 40 (by decide) h (fun h => ?_) (fun h => ?_)
        · refine z_aload_n C dX12_owed_40 0 rfl ?_
          refine rw_g_X12_275_M_M C dX12_owed_41 ?_
          refine z_if_ne C dX12_owed_44 51 (by decide) h (fun h => ?_) (fun h => ?_)
          · refine z_aload_n C dX12_owed_51 0 rfl ?_
            obtain ⟨y5, hy5, h⟩ := bind_o h
            refine rw_c_X12_329 C (cM_goAll hy5) 0 rfl dX12_owed_52 (Nat.le_of_ble_eq_true rfl) (zrm rfl) ?_
            refine z_aload_n C dX12_owed_55 0 rfl ?_
            obtain ⟨y6, hy6, h⟩ := bind_o h
            refine rw_c_X12_359 C (cM_layNets hy6) 0 rfl dX12_owed_56 (Nat.le_of_ble_eq_true rfl) (zrm rfl) ?_
            refine z_aload_n C dX12_owed_59 0 rfl ?_
            refine rw_g_X12_19_M_M C dX12_owed_60 ?_
            refine z_bipush C 8 dX12_owed_63 (by decide) ?_
            refine z_aload_n C dX12_owed_65 0 rfl ?_
            refine rw_g_X12_288_M_M C dX12_owed_66 ?_
            refine z_imul C dX12_owed_69 ?_
            refine z_iconst C 5 dX12_owed_70 (by decide) ?_
            refine z_iadd C dX12_owed_71 ?_
            refine rw_l_M_M_9 C dX12_owed_72 h (fun h => ?_)
            refine z_iconst C 1 dX12_owed_73 (by decide) ?_
            refine z_icmp_ne C dX12_owed_74 103 (by decide) h (fun h => ?_) (fun h => ?_)
            · refine z_iload_n C dX12_owed_103 3 rfl ?_
              refine z_if_ne C dX12_owed_104 120 (by decide) h (fun h => ?_) (fun h => ?_)
              · refine z_lconst C 1 dX12_owed_120 (by decide) ?_
                replace h := Option.some.inj h
                subst h
                exact z_lret C O dX12_owed_121 rfl rfl
              · refine z_aload_n C dX12_owed_107 0 rfl ?_
                refine rw_g_X12_92_M_M C dX12_owed_108 ?_
                refine z_iconst C 3 dX12_owed_111 (by decide) ?_
                refine z_iload_n C dX12_owed_112 1 rfl ?_
                refine z_imul C dX12_owed_113 ?_
                refine z_iload_n C dX12_owed_114 2 rfl ?_
                refine z_iadd C dX12_owed_115 ?_
                refine rw_l_M_M_48 C dX12_owed_116 h (fun h => ?_)
                refine z_goto C dX12_owed_117 121 (by decide) ?_
                replace h := Option.some.inj h
                subst h
                exact z_lret C O dX12_owed_121 rfl rfl
            · refine z_aload_n C dX12_owed_77 0 rfl ?_
              refine rw_g_X12_89_M_M C dX12_owed_78 ?_
              refine z_iconst C 3 dX12_owed_81 (by decide) ?_
              refine z_iload_n C dX12_owed_82 1 rfl ?_
              refine z_imul C dX12_owed_83 ?_
              refine z_iload_n C dX12_owed_84 2 rfl ?_
              refine z_iadd C dX12_owed_85 ?_
              refine rw_l_M_M_47 C dX12_owed_86 h (fun h => ?_)
              refine z_aload_n C dX12_owed_87 0 rfl ?_
              refine rw_g_X12_98_M_M C dX12_owed_88 ?_
              refine z_iload_n C dX12_owed_91 2 rfl ?_
              refine rw_l_M_M_51 C dX12_owed_92 h (fun h => ?_)
              refine z_lmul C dX12_owed_93 ?_
              refine z_aload_n C dX12_owed_94 0 rfl ?_
              refine rw_g_X12_349_M_M C dX12_owed_95 ?_
              refine z_iload_n C dX12_owed_98 3 rfl ?_
              obtain ⟨y7, hy7, h⟩ := bind_o h
              refine rw_c_X12_362 C (Ct.frame0 (cM_partOf hy7)) dX12_owed_99 (Nat.le_of_ble_eq_true rfl) (zrm rfl) ?_
              replace h := Option.some.inj h
              subst h
              exact z_lret C O dX12_owed_102 rfl rfl
          · refine z_ldc2 C rw_u_1305 dX12_owed_47 ?_
            replace h := Option.some.inj h
            subst h
            exact z_lret C O dX12_owed_50 rfl rfl
        · refine z_ldc2 C rw_u_1138 dX12_owed_36 ?_
          replace h := Option.some.inj h
          subst h
          exact z_lret C O dX12_owed_39 rfl rfl
set_option maxHeartbeats 4000000 in
set_option maxRecDepth 100000 in
theorem cM_net {l : Launch} {G : zG} {qM : Nat → Nat} {sM : zSt} {a0 : Int32} {a1 : Int32} {out : Int64 × zSt} (h : fM_net sM a0 a1 = some out) : Ct l G yX12_net cX12_net 3 (some .long) rmX12_net [.ref (qM 0), .int a0, .int a1] (wdM G qM sM) (some (.long out.1)) (wdM G qM out.2) := by
  refine zMet (own := RX12) rfl (by decide) (Nat.le_of_ble_eq_true rfl) (fun x hl C O => ?_)
  show zW x G 0 0 0 [(0, .ref (qM 0)), (1, .int a0), (2, .int a1)] [] _
  unfold fM_net at h
  refine z_aload_n C dX12_net_0 0 rfl ?_
  refine z_iconst C 0 dX12_net_1 (by decide) ?_
  refine rw_p_X12_107_M_M C dX12_net_2 h (fun sM1 h => ?_)
  refine z_aload_n C dX12_net_5 0 rfl ?_
  refine z_iload_n C dX12_net_6 1 rfl ?_
  obtain ⟨y2, hy2, h⟩ := bind_o h
  refine rw_c_X12_337 C (cM_isPurse hy2) 0 rfl dX12_net_7 (Nat.le_of_ble_eq_true rfl) (zrm rfl) ?_
  refine z_ifb_eq C dX12_net_10 23 (by decide) h (fun h => ?_) (fun h => ?_)
  · refine z_ldc2 C rw_u_1138 dX12_net_23 ?_
    replace h := Option.some.inj h
    subst h
    exact z_lret C O dX12_net_26 rfl rfl
  · refine z_iload_n C dX12_net_13 2 rfl ?_
    refine z_i2l C dX12_net_14 ?_
    refine z_lconst C 0 dX12_net_15 (by decide) ?_
    refine z_lconst C 1 dX12_net_16 (by decide) ?_
    obtain ⟨y3, hy3, h⟩ := bind_o h
    refine rw_c_X12_118 C (Ct.frame0 (cM_in hy3)) dX12_net_17 (Nat.le_of_ble_eq_true rfl) (zrm rfl) ?_
    refine z_ifb_ne C dX12_net_20 27 (by decide) h (fun h => ?_) (fun h => ?_)
    · refine z_aload_n C dX12_net_27 0 rfl ?_
      refine rw_g_X12_275_M_M C dX12_net_28 ?_
      refine z_if_ne C dX12_net_31 38 (by decide) h (fun h => ?_) (fun h => ?_)
      · refine z_aload_n C dX12_net_38 0 rfl ?_
        obtain ⟨y4, hy4, h⟩ := bind_o h
        refine rw_c_X12_329 C (cM_goAll hy4) 0 rfl dX12_net_39 (Nat.le_of_ble_eq_true rfl) (zrm rfl) ?_
        refine z_aload_n C dX12_net_42 0 rfl ?_
        obtain ⟨y5, hy5, h⟩ := bind_o h
        refine rw_c_X12_359 C (cM_layNets hy5) 0 rfl dX12_net_43 (Nat.le_of_ble_eq_true rfl) (zrm rfl) ?_
        refine z_aload_n C dX12_net_46 0 rfl ?_
        refine rw_g_X12_95_M_M C dX12_net_47 ?_
        refine z_iload_n C dX12_net_50 1 rfl ?_
        refine rw_l_M_M_50 C dX12_net_51 h (fun h => ?_)
        refine z_aload_n C dX12_net_52 0 rfl ?_
        refine rw_g_X12_349_M_M C dX12_net_53 ?_
        refine z_iload_n C dX12_net_56 2 rfl ?_
        obtain ⟨y6, hy6, h⟩ := bind_o h
        refine rw_c_X12_362 C (Ct.frame0 (cM_partOf hy6)) dX12_net_57 (Nat.le_of_ble_eq_true rfl) (zrm rfl) ?_
        replace h := Option.some.inj h
        subst h
        exact z_lret C O dX12_net_60 rfl rfl
      · refine z_ldc2 C rw_u_1305 dX12_net_34 ?_
        replace h := Option.some.inj h
        subst h
        exact z_lret C O dX12_net_37 rfl rfl
    · refine z_ldc2 C rw_u_1138 dX12_net_23 ?_
      replace h := Option.some.inj h
      subst h
      exact z_lret C O dX12_net_26 rfl rfl
set_option maxHeartbeats 4000000 in
set_option maxRecDepth 100000 in
theorem kM_endOf_b40 {x : zX} {G : zG} {qM : Nat → Nat} {sM : zSt} {out : Int64} (C : zC x G RX12 cX12_endOf 4 (some .long) rmX12_endOf) (O : zO x G (some (.long out)) (wdM G qM sM) 0 0)   {t0 : Int64} {t1 : Int64} (h : fM_endOf_b40  sM t0 t1 = some out) : zW x G 0 0 40 [(0, .ref (qM 0))] [.long t0, .long t1] (wdM G qM sM) := by
  unfold fM_endOf_b40 at h
  refine z_aload_n C dX12_endOf_40 0 rfl ?_
  refine rw_g_X12_95_M_M C dX12_endOf_41 ?_
  refine z_iconst C 2 dX12_endOf_44 (by decide) ?_
  refine rw_l_M_M_50 C dX12_endOf_45 h (fun h => ?_)
  refine z_lmul C dX12_endOf_46 ?_
  refine z_ladd C dX12_endOf_47 ?_
  replace h := Option.some.inj h
  subst h
  exact z_lret C O dX12_endOf_48 rfl rfl
set_option maxHeartbeats 4000000 in
set_option maxRecDepth 100000 in
theorem cM_endOf {l : Launch} {G : zG} {qM : Nat → Nat} {sM : zSt} {a0 : Int32} {out : Int64} (h : fM_endOf sM a0 = some out) : Ct l G yX12_endOf cX12_endOf 4 (some .long) rmX12_endOf [.ref (qM 0), .int a0] (wdM G qM sM) (some (.long out)) (wdM G qM sM) := by
  refine zMet (own := RX12) rfl (by decide) (Nat.le_of_ble_eq_true rfl) (fun x hl C O => ?_)
  show zW x G 0 0 0 [(0, .ref (qM 0)), (1, .int a0)] [] _
  unfold fM_endOf at h
  refine z_aload_n C dX12_endOf_0 0 rfl ?_
  refine rw_g_X12_19_M_M C dX12_endOf_1 ?_
  refine z_bipush C 8 dX12_endOf_4 (by decide) ?_
  refine z_aload_n C dX12_endOf_6 0 rfl ?_
  refine rw_g_X12_288_M_M C dX12_endOf_7 ?_
  refine z_imul C dX12_endOf_10 ?_
  refine z_bipush C 7 dX12_endOf_11 (by decide) ?_
  refine z_iadd C dX12_endOf_13 ?_
  refine rw_l_M_M_9 C dX12_endOf_14 h (fun h => ?_)
  refine z_i2l C dX12_endOf_15 ?_
  refine z_lstore_nN C dX12_endOf_16 (by decide) (lvr := [(0, .ref (qM 0)), (1, .int a0)]) rfl h (fun x2_1 h => ?_)
  refine z_ldc2 C rw_u_1358 dX12_endOf_17 ?_
  refine z_aload_n C dX12_endOf_20 1 rfl ?_
  refine rw_g_X12_95_M_M C dX12_endOf_21 ?_
  refine z_iload_n C dX12_endOf_24 2 rfl ?_
  refine rw_l_M_M_50 C dX12_endOf_25 h (fun h => ?_)
  refine z_lmul C dX12_endOf_26 ?_
  refine z_iload_n C dX12_endOf_27 2 rfl ?_
  refine z_if_ne C dX12_endOf_28 35 (by decide) h (fun h => ?_) (fun h => ?_)
  · refine z_ldc2 C rw_u_1358 dX12_endOf_35 ?_
    refine z_lload_n C dX12_endOf_38 0 rfl ?_
    refine z_lsub C dX12_endOf_39 ?_
    refine z_perm [1] (lv' := [(0, .ref (qM 0))]) rfl ?_
    exact kM_endOf_b40 C O  h
  · refine z_lload_n C dX12_endOf_31 0 rfl ?_
    refine z_goto C dX12_endOf_32 40 (by decide) ?_
    refine z_perm [1] (lv' := [(0, .ref (qM 0))]) rfl ?_
    exact kM_endOf_b40 C O  h
set_option maxHeartbeats 4000000 in
set_option maxRecDepth 100000 in
theorem cM_end {l : Launch} {G : zG} {qM : Nat → Nat} {sM : zSt} {a0 : Int32} {a1 : Int32} {out : Int64 × zSt} (h : fM_end sM a0 a1 = some out) : Ct l G yX12_end cX12_end 3 (some .long) rmX12_end [.ref (qM 0), .int a0, .int a1] (wdM G qM sM) (some (.long out.1)) (wdM G qM out.2) := by
  refine zMet (own := RX12) rfl (by decide) (Nat.le_of_ble_eq_true rfl) (fun x hl C O => ?_)
  show zW x G 0 0 0 [(0, .ref (qM 0)), (1, .int a0), (2, .int a1)] [] _
  unfold fM_end at h
  refine z_aload_n C dX12_end_0 0 rfl ?_
  refine z_iconst C 0 dX12_end_1 (by decide) ?_
  refine rw_p_X12_107_M_M C dX12_end_2 h (fun sM1 h => ?_)
  refine z_iload_n C dX12_end_5 1 rfl ?_
  refine z_i2l C dX12_end_6 ?_
  refine z_lconst C 0 dX12_end_7 (by decide) ?_
  refine z_lconst C 1 dX12_end_8 (by decide) ?_
  obtain ⟨y2, hy2, h⟩ := bind_o h
  refine rw_c_X12_118 C (Ct.frame0 (cM_in hy2)) dX12_end_9 (Nat.le_of_ble_eq_true rfl) (zrm rfl) ?_
  refine z_ifb_eq C dX12_end_12 25 (by decide) h (fun h => ?_) (fun h => ?_)
  · refine z_ldc2 C rw_u_1138 dX12_end_25 ?_
    replace h := Option.some.inj h
    subst h
    exact z_lret C O dX12_end_28 rfl rfl
  · refine z_iload_n C dX12_end_15 2 rfl ?_
    refine z_i2l C dX12_end_16 ?_
    refine z_lconst C 0 dX12_end_17 (by decide) ?_
    refine z_lconst C 1 dX12_end_18 (by decide) ?_
    obtain ⟨y3, hy3, h⟩ := bind_o h
    refine rw_c_X12_118 C (Ct.frame0 (cM_in hy3)) dX12_end_19 (Nat.le_of_ble_eq_true rfl) (zrm rfl) ?_
    refine z_ifb_ne C dX12_end_22 29 (by decide) h (fun h => ?_) (fun h => ?_)
    · refine z_aload_n C dX12_end_29 0 rfl ?_
      refine rw_g_X12_275_M_M C dX12_end_30 ?_
      refine z_if_ne C dX12_end_33 40 (by decide) h (fun h => ?_) (fun h => ?_)
      · refine z_aload_n C dX12_end_40 0 rfl ?_
        obtain ⟨y4, hy4, h⟩ := bind_o h
        refine rw_c_X12_329 C (cM_goAll hy4) 0 rfl dX12_end_41 (Nat.le_of_ble_eq_true rfl) (zrm rfl) ?_
        refine z_aload_n C dX12_end_44 0 rfl ?_
        obtain ⟨y5, hy5, h⟩ := bind_o h
        refine rw_c_X12_359 C (cM_layNets hy5) 0 rfl dX12_end_45 (Nat.le_of_ble_eq_true rfl) (zrm rfl) ?_
        refine z_aload_n C dX12_end_48 0 rfl ?_
        refine z_iload_n C dX12_end_49 1 rfl ?_
        obtain ⟨y6, hy6, h⟩ := bind_o h
        refine rw_c_X12_368 C (cM_endOf hy6) 0 rfl dX12_end_50 (Nat.le_of_ble_eq_true rfl) (zrm rfl) ?_
        refine z_ldc2 C rw_u_1358 dX12_end_53 ?_
        refine z_aload_n C dX12_end_56 0 rfl ?_
        refine rw_g_X12_349_M_M C dX12_end_57 ?_
        refine z_lmul C dX12_end_60 ?_
        refine z_iload_n C dX12_end_61 2 rfl ?_
        obtain ⟨y7, hy7, h⟩ := bind_o h
        refine rw_c_X12_362 C (Ct.frame0 (cM_partOf hy7)) dX12_end_62 (Nat.le_of_ble_eq_true rfl) (zrm rfl) ?_
        replace h := Option.some.inj h
        subst h
        exact z_lret C O dX12_end_65 rfl rfl
      · refine z_ldc2 C rw_u_1305 dX12_end_36 ?_
        replace h := Option.some.inj h
        subst h
        exact z_lret C O dX12_end_39 rfl rfl
    · refine z_ldc2 C rw_u_1138 dX12_end_25 ?_
      replace h := Option.some.inj h
      subst h
      exact z_lret C O dX12_end_28 rfl rfl
set_option maxHeartbeats 4000000 in
set_option maxRecDepth 100000 in
theorem cM_beside {l : Launch} {G : zG} {qM : Nat → Nat} {sM : zSt} {a0 : Int32} {a1 : Int32} {a2 : Int32} {out : Int64 × zSt} (h : fM_beside sM a0 a1 a2 = some out) : Ct l G yX12_beside cX12_beside 4 (some .long) rmX12_beside [.ref (qM 0), .int a0, .int a1, .int a2] (wdM G qM sM) (some (.long out.1)) (wdM G qM out.2) := by
  refine zMet (own := RX12) rfl (by decide) (Nat.le_of_ble_eq_true rfl) (fun x hl C O => ?_)
  show zW x G 0 0 0 [(0, .ref (qM 0)), (1, .int a0), (2, .int a1), (3, .int a2)] [] _
  unfold fM_beside at h
  refine z_aload_n C dX12_beside_0 0 rfl ?_
  refine z_iconst C 0 dX12_beside_1 (by decide) ?_
  refine rw_p_X12_107_M_M C dX12_beside_2 h (fun sM1 h => ?_)
  refine z_aload_n C dX12_beside_5 0 rfl ?_
  refine rw_g_X12_275_M_M C dX12_beside_6 ?_
  refine z_if_ne C dX12_beside_9 16 (by decide) h (fun h => ?_) (fun h => ?_)
  · refine z_iload_n C dX12_beside_16 1 rfl ?_
    refine z_i2l C dX12_beside_17 ?_
    refine z_lconst C 0 dX12_beside_18 (by decide) ?_
    refine z_aload_n C dX12_beside_19 0 rfl ?_
    refine rw_g_X12_279_M_M C dX12_beside_20 ?_
    refine z_iconst C 1 dX12_beside_23 (by decide) ?_
    refine z_isub C dX12_beside_24 ?_
    refine z_i2l C dX12_beside_25 ?_
    obtain ⟨y2, hy2, h⟩ := bind_o h
    refine rw_c_X12_118 C (Ct.frame0 (cM_in hy2)) dX12_beside_26 (Nat.le_of_ble_eq_true rfl) (zrm rfl) ?_
    refine z_ifb_eq C dX12_beside_29 54 (by decide) h (fun h => ?_) (fun h => ?_)
    · refine z_ldc2 C rw_u_1138 dX12_beside_54 ?_
      replace h := Option.some.inj h
      subst h
      exact z_lret C O dX12_beside_57 rfl rfl
    · refine z_iload_n C dX12_beside_32 2 rfl ?_
      refine z_i2l C dX12_beside_33 ?_
      refine z_lconst C 0 dX12_beside_34 (by decide) ?_
      refine z_ldc2 C rw_u_1258 dX12_beside_35 ?_
      obtain ⟨y3, hy3, h⟩ := bind_o h
      refine rw_c_X12_118 C (Ct.frame0 (cM_in hy3)) dX12_beside_38 (Nat.le_of_ble_eq_true rfl) (zrm rfl) ?_
      refine z_ifb_eq C dX12_beside_41 54 (by decide) h (fun h => ?_) (fun h => ?_)
      · refine z_ldc2 C rw_u_1138 dX12_beside_54 ?_
        replace h := Option.some.inj h
        subst h
        exact z_lret C O dX12_beside_57 rfl rfl
      · refine z_iload_n C dX12_beside_44 3 rfl ?_
        refine z_i2l C dX12_beside_45 ?_
        refine z_lconst C 0 dX12_beside_46 (by decide) ?_
        refine z_lconst C 1 dX12_beside_47 (by decide) ?_
        obtain ⟨y4, hy4, h⟩ := bind_o h
        refine rw_c_X12_118 C (Ct.frame0 (cM_in hy4)) dX12_beside_48 (Nat.le_of_ble_eq_true rfl) (zrm rfl) ?_
        refine z_ifb_ne C dX12_beside_51 58 (by decide) h (fun h => ?_) (fun h => ?_)
        · refine z_aload_n C dX12_beside_58 0 rfl ?_
          refine z_sipush C 999 dX12_beside_59 (by decide) ?_
          refine z_iconst C (-1) dX12_beside_62 (by decide) ?_
          refine z_iload_n C dX12_beside_63 2 rfl ?_
          refine z_iload_n C dX12_beside_64 1 rfl ?_
          refine z_iconst C (-1) dX12_beside_65 (by decide) ?_
          refine z_iconst C (-1) dX12_beside_66 (by decide) ?_
          obtain ⟨y5, hy5, h⟩ := bind_o h
          refine rw_c_X12_316 C (cM_goThrough hy5) 0 rfl dX12_beside_67 (Nat.le_of_ble_eq_true rfl) (zrm rfl) ?_
          refine z_aload_n C dX12_beside_70 0 rfl ?_
          obtain ⟨y6, hy6, h⟩ := bind_o h
          refine rw_c_X12_359 C (cM_layNets hy6) 0 rfl dX12_beside_71 (Nat.le_of_ble_eq_true rfl) (zrm rfl) ?_
          refine z_aload_n C dX12_beside_74 0 rfl ?_
          refine z_iconst C 0 dX12_beside_75 (by decide) ?_
          obtain ⟨y7, hy7, h⟩ := bind_o h
          refine rw_c_X12_368 C (cM_endOf hy7) 0 rfl dX12_beside_76 (Nat.le_of_ble_eq_true rfl) (zrm rfl) ?_
          refine z_ldc2 C rw_u_1358 dX12_beside_79 ?_
          refine z_aload_n C dX12_beside_82 0 rfl ?_
          refine rw_g_X12_349_M_M C dX12_beside_83 ?_
          refine z_lmul C dX12_beside_86 ?_
          refine z_iload_n C dX12_beside_87 3 rfl ?_
          obtain ⟨y8, hy8, h⟩ := bind_o h
          refine rw_c_X12_362 C (Ct.frame0 (cM_partOf hy8)) dX12_beside_88 (Nat.le_of_ble_eq_true rfl) (zrm rfl) ?_
          replace h := Option.some.inj h
          subst h
          exact z_lret C O dX12_beside_91 rfl rfl
        · refine z_ldc2 C rw_u_1138 dX12_beside_54 ?_
          replace h := Option.some.inj h
          subst h
          exact z_lret C O dX12_beside_57 rfl rfl
  · refine z_ldc2 C rw_u_1305 dX12_beside_12 ?_
    replace h := Option.some.inj h
    subst h
    exact z_lret C O dX12_beside_15 rfl rfl
set_option maxHeartbeats 4000000 in
set_option maxRecDepth 100000 in
theorem kM_hangs_b154 {x : zX} {G : zG} {qM : Nat → Nat}  {out : Int64 × zSt} (C : zC x G RX12 cX12_hangs 10 (some .long) rmX12_hangs) (O : zO x G (some (.long out.1)) (wdM G qM out.2) 0 0) {K50 : zSt → Int64 → Int32 → Int64 → Int32 → Option (Int64 × zSt)} (hK50 : ∀ (sM : zSt) (x1 : Int64) (x3 : Int32) (x4 : Int64) (x6 : Int32), K50 sM x1 x3 x4 x6 = some out → zW x G 0 0 50 [(0, .ref (qM 0)), (1, .long x1), (3, .int x3), (4, .long x4), (6, .int x6)] [] (wdM G qM sM)) {sM : zSt} {x1 : Int64} {x4 : Int64} {x6 : Int32} {x8 : Int64} {t0 : Int32} (h : fM_hangs_b154 K50 sM x1 x4 x6 x8 t0 = some out) : zW x G 0 0 154 [(0, .ref (qM 0)), (1, .long x1), (4, .long x4), (6, .int x6), (8, .long x8)] [.int t0] (wdM G qM sM) := by
  unfold fM_hangs_b154 at h
  refine z_istore_n C dX12_hangs_154 (by decide) (lvr := [(0, .ref (qM 0)), (1, .long x1), (4, .long x4), (6, .int x6), (8, .long x8)]) rfl ?_
  refine z_lload C dX12_hangs_155 5 rfl ?_
  refine z_lload C dX12_hangs_157 3 rfl ?_
  refine z_lcmp_le C dX12_hangs_159 dX12_hangs_160 168 (by decide) h (fun h => ?_) (fun h => ?_)
  · refine z_lload C dX12_hangs_168 3 rfl ?_
    refine z_lstore C dX12_hangs_170 (by decide) (lvr := [(3, .int t0), (0, .ref (qM 0)), (1, .long x1), (6, .int x6), (8, .long x8)]) rfl ?_
    refine z_iinc C dX12_hangs_172 4 rfl 1 (by decide) (by decide) (lvr := [(4, .long x4), (3, .int t0), (0, .ref (qM 0)), (1, .long x1), (8, .long x8)]) rfl h (fun x6_14 h => ?_)
    refine z_goto C dX12_hangs_175 50 (by decide) ?_
    refine z_perm [3, 4, 2, 1, 0] (lv' := [(0, .ref (qM 0)), (1, .long x1), (3, .int t0), (4, .long x4), (6, .int x6_14)]) rfl ?_
    exact hK50 _  _ _ _ _ h
  · refine z_lload C dX12_hangs_163 5 rfl ?_
    refine z_goto C dX12_hangs_165 170 (by decide) ?_
    refine z_lstore C dX12_hangs_170 (by decide) (lvr := [(3, .int t0), (0, .ref (qM 0)), (1, .long x1), (6, .int x6), (8, .long x8)]) rfl ?_
    refine z_iinc C dX12_hangs_172 4 rfl 1 (by decide) (by decide) (lvr := [(4, .long x8), (3, .int t0), (0, .ref (qM 0)), (1, .long x1), (8, .long x8)]) rfl h (fun x6_15 h => ?_)
    refine z_goto C dX12_hangs_175 50 (by decide) ?_
    refine z_perm [3, 4, 2, 1, 0] (lv' := [(0, .ref (qM 0)), (1, .long x1), (3, .int t0), (4, .long x8), (6, .int x6_15)]) rfl ?_
    exact hK50 _  _ _ _ _ h
set_option maxHeartbeats 4000000 in
set_option maxRecDepth 100000 in
theorem kM_hangs_b138 {x : zX} {G : zG} {qM : Nat → Nat}  {out : Int64 × zSt} (C : zC x G RX12 cX12_hangs 10 (some .long) rmX12_hangs) (O : zO x G (some (.long out.1)) (wdM G qM out.2) 0 0) {K50 : zSt → Int64 → Int32 → Int64 → Int32 → Option (Int64 × zSt)} (hK50 : ∀ (sM : zSt) (x1 : Int64) (x3 : Int32) (x4 : Int64) (x6 : Int32), K50 sM x1 x3 x4 x6 = some out → zW x G 0 0 50 [(0, .ref (qM 0)), (1, .long x1), (3, .int x3), (4, .long x4), (6, .int x6)] [] (wdM G qM sM)) {sM : zSt} {x1 : Int64} {x3 : Int32} {x4 : Int64} {x6 : Int32} {t0 : Int64} (h : fM_hangs_b138 K50 sM x1 x3 x4 x6 t0 = some out) : zW x G 0 0 138 [(0, .ref (qM 0)), (1, .long x1), (3, .int x3), (4, .long x4), (6, .int x6)] [.long t0] (wdM G qM sM) := by
  unfold fM_hangs_b138 at h
  refine z_lstore C dX12_hangs_138 (by decide) (lvr := [(0, .ref (qM 0)), (1, .long x1), (3, .int x3), (4, .long x4), (6, .int x6)]) rfl ?_
  refine z_lload C dX12_hangs_140 0 rfl ?_
  refine z_lload C dX12_hangs_142 4 rfl ?_
  refine z_lcmp_le C dX12_hangs_144 dX12_hangs_145 153 (by decide) h (fun h => ?_) (fun h => ?_)
  · refine z_iload_n C dX12_hangs_153 3 rfl ?_
    refine z_perm [1, 2, 4, 5, 0] (lv' := [(0, .ref (qM 0)), (1, .long x1), (4, .long x4), (6, .int x6), (8, .long t0)]) rfl ?_
    exact kM_hangs_b154 C O hK50 h
  · refine z_iload C dX12_hangs_148 5 rfl ?_
    refine z_goto C dX12_hangs_150 154 (by decide) ?_
    refine z_perm [1, 2, 4, 5, 0] (lv' := [(0, .ref (qM 0)), (1, .long x1), (4, .long x4), (6, .int x6), (8, .long t0)]) rfl ?_
    exact kM_hangs_b154 C O hK50 h
set_option maxHeartbeats 4000000 in
set_option maxRecDepth 100000 in
theorem kM_hangs_l50b {x : zX} {G : zG} {qM : Nat → Nat}  {out : Int64 × zSt} (C : zC x G RX12 cX12_hangs 10 (some .long) rmX12_hangs) (O : zO x G (some (.long out.1)) (wdM G qM out.2) 0 0) {K50 : zSt → Int64 → Int32 → Int64 → Int32 → Option (Int64 × zSt)} (hK50 : ∀ (sM : zSt) (x1 : Int64) (x3 : Int32) (x4 : Int64) (x6 : Int32), K50 sM x1 x3 x4 x6 = some out → zW x G 0 0 50 [(0, .ref (qM 0)), (1, .long x1), (3, .int x3), (4, .long x4), (6, .int x6)] [] (wdM G qM sM)) {sM : zSt} {x1 : Int64} {x3 : Int32} {x4 : Int64} {x6 : Int32} (h : fM_hangs_l50b K50 sM x1 x3 x4 x6 = some out) : zW x G 0 0 50 [(0, .ref (qM 0)), (1, .long x1), (3, .int x3), (4, .long x4), (6, .int x6)] [] (wdM G qM sM) := by
  unfold fM_hangs_l50b at h
  refine z_iload C dX12_hangs_50 4 rfl ?_
  refine z_aload_n C dX12_hangs_52 0 rfl ?_
  refine rw_g_X12_282_M_M C dX12_hangs_53 ?_
  refine z_icmp_ge C dX12_hangs_56 178 (by decide) h (fun h => ?_) (fun h => ?_)
  · refine z_iload_n C dX12_hangs_178 2 rfl ?_
    refine z_i2l C dX12_hangs_179 ?_
    replace h := Option.some.inj h
    subst h
    exact z_lret C O dX12_hangs_180 rfl rfl
  · refine z_aload_n C dX12_hangs_59 0 rfl ?_
    refine rw_g_X12_22_M_M C dX12_hangs_60 ?_
    refine z_bipush C 6 dX12_hangs_63 (by decide) ?_
    refine z_iload C dX12_hangs_65 4 rfl ?_
    refine z_imul C dX12_hangs_67 ?_
    refine rw_l_M_M_10 C dX12_hangs_68 h (fun h => ?_)
    refine z_istoreN C dX12_hangs_69 (by decide) (lvr := [(0, .ref (qM 0)), (1, .long x1), (3, .int x3), (4, .long x4), (6, .int x6)]) rfl h (fun x7_6 h => ?_)
    refine z_iload C dX12_hangs_71 0 rfl ?_
    refine z_if_eq C dX12_hangs_73 172 (by decide) h (fun h => ?_) (fun h => ?_)
    · refine z_iinc C dX12_hangs_172 5 rfl 1 (by decide) (by decide) (lvr := [(7, .int x7_6), (0, .ref (qM 0)), (1, .long x1), (3, .int x3), (4, .long x4)]) rfl h (fun x6_7 h => ?_)
      refine z_goto C dX12_hangs_175 50 (by decide) ?_
      refine z_perm [2, 3, 4, 5, 0] (lv' := [(0, .ref (qM 0)), (1, .long x1), (3, .int x3), (4, .long x4), (6, .int x6_7)]) rfl ?_
      exact hK50 _  _ _ _ _ h
    · refine z_iload C dX12_hangs_76 0 rfl ?_
      refine z_iconst C 1 dX12_hangs_78 (by decide) ?_
      refine z_icmp_eq C dX12_hangs_79 172 (by decide) h (fun h => ?_) (fun h => ?_)
      · refine z_iinc C dX12_hangs_172 5 rfl 1 (by decide) (by decide) (lvr := [(7, .int x7_6), (0, .ref (qM 0)), (1, .long x1), (3, .int x3), (4, .long x4)]) rfl h (fun x6_8 h => ?_)
        refine z_goto C dX12_hangs_175 50 (by decide) ?_
        refine z_perm [2, 3, 4, 5, 0] (lv' := [(0, .ref (qM 0)), (1, .long x1), (3, .int x3), (4, .long x4), (6, .int x6_8)]) rfl ?_
        exact hK50 _  _ _ _ _ h
      · refine z_iload C dX12_hangs_82 0 rfl ?_
        refine z_iconst C 5 dX12_hangs_84 (by decide) ?_
        refine z_icmp_eq C dX12_hangs_85 172 (by decide) h (fun h => ?_) (fun h => ?_)
        · refine z_iinc C dX12_hangs_172 5 rfl 1 (by decide) (by decide) (lvr := [(7, .int x7_6), (0, .ref (qM 0)), (1, .long x1), (3, .int x3), (4, .long x4)]) rfl h (fun x6_9 h => ?_)
          refine z_goto C dX12_hangs_175 50 (by decide) ?_
          refine z_perm [2, 3, 4, 5, 0] (lv' := [(0, .ref (qM 0)), (1, .long x1), (3, .int x3), (4, .long x4), (6, .int x6_9)]) rfl ?_
          exact hK50 _  _ _ _ _ h
        · refine z_aload_n C dX12_hangs_88 1 rfl ?_
          refine z_sipush C 999 dX12_hangs_89 (by decide) ?_
          refine z_iload C dX12_hangs_92 5 rfl ?_
          refine z_iconst C (-1) dX12_hangs_94 (by decide) ?_
          refine z_iconst C (-1) dX12_hangs_95 (by decide) ?_
          refine z_iconst C (-1) dX12_hangs_96 (by decide) ?_
          refine z_iconst C (-1) dX12_hangs_97 (by decide) ?_
          obtain ⟨y10, hy10, h⟩ := bind_o h
          refine rw_c_X12_316 C (cM_goThrough hy10) 0 rfl dX12_hangs_98 (Nat.le_of_ble_eq_true rfl) (zrm rfl) ?_
          refine z_aload_n C dX12_hangs_101 1 rfl ?_
          obtain ⟨y11, hy11, h⟩ := bind_o h
          refine rw_c_X12_359 C (cM_layNets hy11) 0 rfl dX12_hangs_102 (Nat.le_of_ble_eq_true rfl) (zrm rfl) ?_
          refine z_aload_n C dX12_hangs_105 1 rfl ?_
          refine z_iconst C 0 dX12_hangs_106 (by decide) ?_
          obtain ⟨y12, hy12, h⟩ := bind_o h
          refine rw_c_X12_368 C (cM_endOf hy12) 0 rfl dX12_hangs_107 (Nat.le_of_ble_eq_true rfl) (zrm rfl) ?_
          refine z_ldc2 C rw_u_1358 dX12_hangs_110 ?_
          refine z_aload_n C dX12_hangs_113 1 rfl ?_
          refine rw_g_X12_349_M_M C dX12_hangs_114 ?_
          refine z_lmul C dX12_hangs_117 ?_
          refine z_ldiv C dX12_hangs_118 h (fun h => ?_)
          refine z_lload_n C dX12_hangs_119 2 rfl ?_
          refine z_lsub C dX12_hangs_120 ?_
          refine z_lstoreN C dX12_hangs_121 (by decide) (lvr := [(7, .int x7_6), (0, .ref (qM 0)), (1, .long x1), (3, .int x3), (4, .long x4), (6, .int x6)]) rfl h (fun x8_13 h => ?_)
          refine z_lload C dX12_hangs_123 0 rfl ?_
          refine z_lconst C 0 dX12_hangs_125 (by decide) ?_
          refine z_lcmp_ge C dX12_hangs_126 dX12_hangs_127 136 (by decide) h (fun h => ?_) (fun h => ?_)
          · refine z_lload C dX12_hangs_136 0 rfl ?_
            refine z_perm [2, 3, 4, 5, 6] (lv' := [(0, .ref (qM 0)), (1, .long x1), (3, .int x3), (4, .long x4), (6, .int x6)]) rfl ?_
            exact kM_hangs_b138 C O hK50 h
          · refine z_lload C dX12_hangs_130 0 rfl ?_
            refine z_lneg C dX12_hangs_132 ?_
            refine z_goto C dX12_hangs_133 138 (by decide) ?_
            refine z_perm [2, 3, 4, 5, 6] (lv' := [(0, .ref (qM 0)), (1, .long x1), (3, .int x3), (4, .long x4), (6, .int x6)]) rfl ?_
            exact kM_hangs_b138 C O hK50 h
set_option maxHeartbeats 4000000 in
set_option maxRecDepth 100000 in
theorem kM_hangs_l50 {x : zX} {G : zG} {qM : Nat → Nat}  {out : Int64 × zSt} (C : zC x G RX12 cX12_hangs 10 (some .long) rmX12_hangs) (O : zO x G (some (.long out.1)) (wdM G qM out.2) 0 0)  : ∀ (n : Nat) {sM : zSt} {x1 : Int64} {x3 : Int32} {x4 : Int64} {x6 : Int32}, fM_hangs_l50  n sM x1 x3 x4 x6 = some out → zW x G 0 0 50 [(0, .ref (qM 0)), (1, .long x1), (3, .int x3), (4, .long x4), (6, .int x6)] [] (wdM G qM sM) := by
  intro n
  induction n with
  | zero =>
    intro sM x1 x3 x4 x6 h
    have h : (none : Option (Int64 × zSt)) = some out := h
    cases h
  | succ n ih =>
    intro sM x1 x3 x4 x6 h
    exact kM_hangs_l50b C O (K50 := fun v0 v1 v2 v3 v4 => fM_hangs_l50  n v0 v1 v2 v3 v4) (fun sM x1 x3 x4 x6 h => ih h) h
set_option maxHeartbeats 4000000 in
set_option maxRecDepth 100000 in
theorem cM_hangs {l : Launch} {G : zG} {qM : Nat → Nat} {sM : zSt}  {out : Int64 × zSt} (h : fM_hangs sM  = some out) : Ct l G yX12_hangs cX12_hangs 10 (some .long) rmX12_hangs [.ref (qM 0)] (wdM G qM sM) (some (.long out.1)) (wdM G qM out.2) := by
  refine zMet (own := RX12) rfl (by decide) (Nat.le_of_ble_eq_true rfl) (fun x hl C O => ?_)
  show zW x G 0 0 0 [(0, .ref (qM 0))] [] _
  unfold fM_hangs at h
  refine z_aload_n C dX12_hangs_0 0 rfl ?_
  refine z_iconst C 0 dX12_hangs_1 (by decide) ?_
  refine rw_p_X12_107_M_M C dX12_hangs_2 h (fun sM1 h => ?_)
  refine z_aload_n C dX12_hangs_5 0 rfl ?_
  refine rw_g_X12_275_M_M C dX12_hangs_6 ?_
  refine z_if_ne C dX12_hangs_9 16 (by decide) h (fun h => ?_) (fun h => ?_)
  · refine z_aload_n C dX12_hangs_16 0 rfl ?_
    obtain ⟨y2, hy2, h⟩ := bind_o h
    refine rw_c_X12_329 C (cM_goAll hy2) 0 rfl dX12_hangs_17 (Nat.le_of_ble_eq_true rfl) (zrm rfl) ?_
    refine z_aload_n C dX12_hangs_20 0 rfl ?_
    obtain ⟨y3, hy3, h⟩ := bind_o h
    refine rw_c_X12_359 C (cM_layNets hy3) 0 rfl dX12_hangs_21 (Nat.le_of_ble_eq_true rfl) (zrm rfl) ?_
    refine z_aload_n C dX12_hangs_24 0 rfl ?_
    refine z_iconst C 0 dX12_hangs_25 (by decide) ?_
    obtain ⟨y4, hy4, h⟩ := bind_o h
    refine rw_c_X12_368 C (cM_endOf hy4) 0 rfl dX12_hangs_26 (Nat.le_of_ble_eq_true rfl) (zrm rfl) ?_
    refine z_ldc2 C rw_u_1358 dX12_hangs_29 ?_
    refine z_aload_n C dX12_hangs_32 0 rfl ?_
    refine rw_g_X12_349_M_M C dX12_hangs_33 ?_
    refine z_lmul C dX12_hangs_36 ?_
    refine z_ldiv C dX12_hangs_37 h (fun h => ?_)
    refine z_lstore_nN C dX12_hangs_38 (by decide) (lvr := [(0, .ref (qM 0))]) rfl h (fun x1_5 h => ?_)
    refine z_ldc C rw_u_1175 dX12_hangs_39 ?_
    refine z_istore_n C dX12_hangs_41 (by decide) (lvr := [(1, .long x1_5), (0, .ref (qM 0))]) rfl ?_
    refine z_ldc2 C rw_u_1201 dX12_hangs_42 ?_
    refine z_lstore C dX12_hangs_45 (by decide) (lvr := [(3, .int (-1000000)), (1, .long x1_5), (0, .ref (qM 0))]) rfl ?_
    refine z_iconst C 0 dX12_hangs_47 (by decide) ?_
    refine z_istore C dX12_hangs_48 (by decide) (lvr := [(4, .long (-1)), (3, .int (-1000000)), (1, .long x1_5), (0, .ref (qM 0))]) rfl ?_
    refine z_perm [4, 3, 2, 1, 0] (lv' := [(0, .ref (qM 0)), (1, .long x1_5), (3, .int (-1000000)), (4, .long (-1)), (6, .int 0)]) rfl ?_
    exact kM_hangs_l50 C O  zF h
  · refine z_ldc2 C rw_u_1305 dX12_hangs_12 ?_
    replace h := Option.some.inj h
    subst h
    exact z_lret C O dX12_hangs_15 rfl rfl
set_option maxHeartbeats 4000000 in
set_option maxRecDepth 100000 in
theorem cM_isWished {l : Launch} {G : zG} {qM : Nat → Nat} {sM : zSt} {a0 : Int32} {a1 : Int32} {a2 : Int32} {a3 : Int32} {out : Bool × zSt} (h : fM_isWished sM a0 a1 a2 a3 = some out) : Ct l G yX12_isWished cX12_isWished 5 (some .boolean) rmX12_isWished [.ref (qM 0), .int a0, .int a1, .int a2, .int a3] (wdM G qM sM) (some (.int (zb out.1))) (wdM G qM out.2) := by
  refine zMet (own := RX12) rfl (by decide) (Nat.le_of_ble_eq_true rfl) (fun x hl C O => ?_)
  show zW x G 0 0 0 [(0, .ref (qM 0)), (1, .int a0), (2, .int a1), (3, .int a2), (4, .int a3)] [] _
  unfold fM_isWished at h
  refine z_aload_n C dX12_isWished_0 0 rfl ?_
  refine z_sipush C 999 dX12_isWished_1 (by decide) ?_
  refine z_iconst C (-1) dX12_isWished_4 (by decide) ?_
  refine z_iconst C (-1) dX12_isWished_5 (by decide) ?_
  refine z_iconst C (-1) dX12_isWished_6 (by decide) ?_
  refine z_iload_n C dX12_isWished_7 1 rfl ?_
  refine z_iload_n C dX12_isWished_8 2 rfl ?_
  obtain ⟨y1, hy1, h⟩ := bind_o h
  refine rw_c_X12_316 C (cM_goThrough hy1) 0 rfl dX12_isWished_9 (Nat.le_of_ble_eq_true rfl) (zrm rfl) ?_
  refine z_aload_n C dX12_isWished_12 0 rfl ?_
  obtain ⟨y2, hy2, h⟩ := bind_o h
  refine rw_c_X12_359 C (cM_layNets hy2) 0 rfl dX12_isWished_13 (Nat.le_of_ble_eq_true rfl) (zrm rfl) ?_
  refine z_aload_n C dX12_isWished_16 0 rfl ?_
  refine z_iconst C 0 dX12_isWished_17 (by decide) ?_
  obtain ⟨y3, hy3, h⟩ := bind_o h
  refine rw_c_X12_368 C (cM_endOf hy3) 0 rfl dX12_isWished_18 (Nat.le_of_ble_eq_true rfl) (zrm rfl) ?_
  refine z_iload_n C dX12_isWished_21 3 rfl ?_
  refine z_i2l C dX12_isWished_22 ?_
  refine z_ldc2 C rw_u_1358 dX12_isWished_23 ?_
  refine z_lmul C dX12_isWished_26 ?_
  refine z_aload_n C dX12_isWished_27 0 rfl ?_
  refine rw_g_X12_349_M_M C dX12_isWished_28 ?_
  refine z_lmul C dX12_isWished_31 ?_
  refine z_lcmp_lt C dX12_isWished_32 dX12_isWished_33 61 (by decide) h (fun h => ?_) (fun h => ?_)
  · refine z_iconst C 0 dX12_isWished_61 (by decide) ?_
    replace h := Option.some.inj h
    subst h
    exact z_zret C O dX12_isWished_62 (zb_nar false) rfl rfl
  · refine z_aload_n C dX12_isWished_36 0 rfl ?_
    refine z_iconst C 1 dX12_isWished_37 (by decide) ?_
    obtain ⟨y4, hy4, h⟩ := bind_o h
    refine rw_c_X12_368 C (cM_endOf hy4) 0 rfl dX12_isWished_38 (Nat.le_of_ble_eq_true rfl) (zrm rfl) ?_
    refine z_iload C dX12_isWished_41 4 rfl ?_
    refine z_i2l C dX12_isWished_43 ?_
    refine z_ldc2 C rw_u_1358 dX12_isWished_44 ?_
    refine z_lmul C dX12_isWished_47 ?_
    refine z_aload_n C dX12_isWished_48 0 rfl ?_
    refine rw_g_X12_349_M_M C dX12_isWished_49 ?_
    refine z_lmul C dX12_isWished_52 ?_
    refine z_lcmp_lt C dX12_isWished_53 dX12_isWished_54 61 (by decide) h (fun h => ?_) (fun h => ?_)
    · refine z_iconst C 0 dX12_isWished_61 (by decide) ?_
      replace h := Option.some.inj h
      subst h
      exact z_zret C O dX12_isWished_62 (zb_nar false) rfl rfl
    · refine z_iconst C 1 dX12_isWished_57 (by decide) ?_
      refine z_goto C dX12_isWished_58 62 (by decide) ?_
      replace h := Option.some.inj h
      subst h
      exact z_zret C O dX12_isWished_62 (zb_nar true) rfl rfl
set_option maxHeartbeats 4000000 in
set_option maxRecDepth 100000 in
theorem kM_beforehand_l65b {x : zX} {G : zG} {qM : Nat → Nat}  {out : Int64 × zSt} (C : zC x G RX12 cX12_beforehand 4 (some .long) rmX12_beforehand) (O : zO x G (some (.long out.1)) (wdM G qM out.2) 0 0) {K65 : zSt → Int32 → Int32 → Int32 → Option (Int64 × zSt)} (hK65 : ∀ (sM : zSt) (x1 : Int32) (x2 : Int32) (x3 : Int32), K65 sM x1 x2 x3 = some out → zW x G 0 0 65 [(0, .ref (qM 0)), (1, .int x1), (2, .int x2), (3, .int x3)] [] (wdM G qM sM)) {sM : zSt} {x1 : Int32} {x2 : Int32} {x3 : Int32} (h : fM_beforehand_l65b K65 sM x1 x2 x3 = some out) : zW x G 0 0 65 [(0, .ref (qM 0)), (1, .int x1), (2, .int x2), (3, .int x3)] [] (wdM G qM sM) := by
  unfold fM_beforehand_l65b at h
  refine z_iload_n C dX12_beforehand_65 3 rfl ?_
  refine z_bipush C 15 dX12_beforehand_66 (by decide) ?_
  refine z_icmp_ge C dX12_beforehand_68 95 (by decide) h (fun h => ?_) (fun h => ?_)
  · refine z_ldc2 C rw_u_1287 dX12_beforehand_95 ?_
    replace h := Option.some.inj h
    subst h
    exact z_lret C O dX12_beforehand_98 rfl rfl
  · refine z_aload_n C dX12_beforehand_71 0 rfl ?_
    refine z_iload_n C dX12_beforehand_72 3 rfl ?_
    refine z_iconst C 3 dX12_beforehand_73 (by decide) ?_
    refine z_idiv C dX12_beforehand_74 h (fun h => ?_)
    refine z_iload_n C dX12_beforehand_75 3 rfl ?_
    refine z_iconst C 3 dX12_beforehand_76 (by decide) ?_
    refine z_irem C dX12_beforehand_77 h (fun h => ?_)
    refine z_iload_n C dX12_beforehand_78 1 rfl ?_
    refine z_iload_n C dX12_beforehand_79 2 rfl ?_
    obtain ⟨y5, hy5, h⟩ := bind_o h
    refine rw_c_X12_375 C (cM_isWished hy5) 0 rfl dX12_beforehand_80 (Nat.le_of_ble_eq_true rfl) (zrm rfl) ?_
    refine z_ifb_eq C dX12_beforehand_83 89 (by decide) h (fun h => ?_) (fun h => ?_)
    · refine z_iinc C dX12_beforehand_89 3 rfl 1 (by decide) (by decide) (lvr := [(0, .ref (qM 0)), (1, .int x1), (2, .int x2)]) rfl h (fun x3_6 h => ?_)
      refine z_goto C dX12_beforehand_92 65 (by decide) ?_
      refine z_perm [1, 2, 3, 0] (lv' := [(0, .ref (qM 0)), (1, .int x1), (2, .int x2), (3, .int x3_6)]) rfl ?_
      exact hK65 _  _ _ _ h
    · refine z_iload_n C dX12_beforehand_86 3 rfl ?_
      refine z_i2l C dX12_beforehand_87 ?_
      replace h := Option.some.inj h
      subst h
      exact z_lret C O dX12_beforehand_88 rfl rfl
set_option maxHeartbeats 4000000 in
set_option maxRecDepth 100000 in
theorem kM_beforehand_l65 {x : zX} {G : zG} {qM : Nat → Nat}  {out : Int64 × zSt} (C : zC x G RX12 cX12_beforehand 4 (some .long) rmX12_beforehand) (O : zO x G (some (.long out.1)) (wdM G qM out.2) 0 0)  : ∀ (n : Nat) {sM : zSt} {x1 : Int32} {x2 : Int32} {x3 : Int32}, fM_beforehand_l65  n sM x1 x2 x3 = some out → zW x G 0 0 65 [(0, .ref (qM 0)), (1, .int x1), (2, .int x2), (3, .int x3)] [] (wdM G qM sM) := by
  intro n
  induction n with
  | zero =>
    intro sM x1 x2 x3 h
    have h : (none : Option (Int64 × zSt)) = some out := h
    cases h
  | succ n ih =>
    intro sM x1 x2 x3 h
    exact kM_beforehand_l65b C O (K65 := fun v0 v1 v2 v3 => fM_beforehand_l65  n v0 v1 v2 v3) (fun sM x1 x2 x3 h => ih h) h
set_option maxHeartbeats 4000000 in
set_option maxRecDepth 100000 in
theorem cM_beforehand {l : Launch} {G : zG} {qM : Nat → Nat} {sM : zSt} {a0 : Int32} {a1 : Int32} {out : Int64 × zSt} (h : fM_beforehand sM a0 a1 = some out) : Ct l G yX12_beforehand cX12_beforehand 4 (some .long) rmX12_beforehand [.ref (qM 0), .int a0, .int a1] (wdM G qM sM) (some (.long out.1)) (wdM G qM out.2) := by
  refine zMet (own := RX12) rfl (by decide) (Nat.le_of_ble_eq_true rfl) (fun x hl C O => ?_)
  show zW x G 0 0 0 [(0, .ref (qM 0)), (1, .int a0), (2, .int a1)] [] _
  unfold fM_beforehand at h
  refine z_aload_n C dX12_beforehand_0 0 rfl ?_
  refine z_iconst C 0 dX12_beforehand_1 (by decide) ?_
  refine rw_p_X12_107_M_M C dX12_beforehand_2 h (fun sM1 h => ?_)
  refine z_iload_n C dX12_beforehand_5 1 rfl ?_
  refine z_i2l C dX12_beforehand_6 ?_
  refine z_ldc2 C rw_u_1371 dX12_beforehand_7 ?_
  refine z_ldc2 C rw_u_1372 dX12_beforehand_10 ?_
  obtain ⟨y2, hy2, h⟩ := bind_o h
  refine rw_c_X12_118 C (Ct.frame0 (cM_in hy2)) dX12_beforehand_13 (Nat.le_of_ble_eq_true rfl) (zrm rfl) ?_
  refine z_ifb_eq C dX12_beforehand_16 33 (by decide) h (fun h => ?_) (fun h => ?_)
  · refine z_ldc2 C rw_u_1138 dX12_beforehand_33 ?_
    replace h := Option.some.inj h
    subst h
    exact z_lret C O dX12_beforehand_36 rfl rfl
  · refine z_iload_n C dX12_beforehand_19 2 rfl ?_
    refine z_i2l C dX12_beforehand_20 ?_
    refine z_ldc2 C rw_u_1371 dX12_beforehand_21 ?_
    refine z_ldc2 C rw_u_1372 dX12_beforehand_24 ?_
    obtain ⟨y3, hy3, h⟩ := bind_o h
    refine rw_c_X12_118 C (Ct.frame0 (cM_in hy3)) dX12_beforehand_27 (Nat.le_of_ble_eq_true rfl) (zrm rfl) ?_
    refine z_ifb_ne C dX12_beforehand_30 37 (by decide) h (fun h => ?_) (fun h => ?_)
    · refine z_aload_n C dX12_beforehand_37 0 rfl ?_
      refine rw_g_X12_275_M_M C dX12_beforehand_38 ?_
      refine z_if_ne C dX12_beforehand_41 48 (by decide) h (fun h => ?_) (fun h => ?_)
      · refine z_aload_n C dX12_beforehand_48 0 rfl ?_
        refine z_iconst C (-1) dX12_beforehand_49 (by decide) ?_
        refine z_iconst C (-1) dX12_beforehand_50 (by decide) ?_
        refine z_iload_n C dX12_beforehand_51 1 rfl ?_
        refine z_iload_n C dX12_beforehand_52 2 rfl ?_
        obtain ⟨y4, hy4, h⟩ := bind_o h
        refine rw_c_X12_375 C (cM_isWished hy4) 0 rfl dX12_beforehand_53 (Nat.le_of_ble_eq_true rfl) (zrm rfl) ?_
        refine z_ifb_eq C dX12_beforehand_56 63 (by decide) h (fun h => ?_) (fun h => ?_)
        · refine z_iconst C 0 dX12_beforehand_63 (by decide) ?_
          refine z_istore_n C dX12_beforehand_64 (by decide) (lvr := [(0, .ref (qM 0)), (1, .int a0), (2, .int a1)]) rfl ?_
          refine z_perm [1, 2, 3, 0] (lv' := [(0, .ref (qM 0)), (1, .int a0), (2, .int a1), (3, .int 0)]) rfl ?_
          exact kM_beforehand_l65 C O  zF h
        · refine z_ldc2 C rw_u_1377 dX12_beforehand_59 ?_
          replace h := Option.some.inj h
          subst h
          exact z_lret C O dX12_beforehand_62 rfl rfl
      · refine z_ldc2 C rw_u_1305 dX12_beforehand_44 ?_
        replace h := Option.some.inj h
        subst h
        exact z_lret C O dX12_beforehand_47 rfl rfl
    · refine z_ldc2 C rw_u_1138 dX12_beforehand_33 ?_
      replace h := Option.some.inj h
      subst h
      exact z_lret C O dX12_beforehand_36 rfl rfl
set_option maxHeartbeats 4000000 in
set_option maxRecDepth 100000 in
theorem kM_isFed_b41 {x : zX} {G : zG} {qM : Nat → Nat} {sM : zSt} {out : Bool} (C : zC x G RX12 cX12_isFed 4 (some .boolean) rmX12_isFed) (O : zO x G (some (.int (zb out))) (wdM G qM sM) 0 0) {K4 : zSt → Int32 → Int32 → Int32 → Option (Bool)} (hK4 : ∀  (x1 : Int32) (x2 : Int32) (x3 : Int32), K4 sM x1 x2 x3 = some out → zW x G 0 0 4 [(0, .ref (qM 0)), (1, .int x1), (2, .int x2), (3, .int x3)] [] (wdM G qM sM))  {x1 : Int32} {x3 : Int32} (h : fM_isFed_b41 K4 sM x1 x3 = some out) : zW x G 0 0 41 [(0, .ref (qM 0)), (1, .int x1), (3, .int x3)] [] (wdM G qM sM) := by
  unfold fM_isFed_b41 at h
  refine z_iconst C 1 dX12_isFed_41 (by decide) ?_
  refine z_goto C dX12_isFed_42 46 (by decide) ?_
  refine z_istore_n C dX12_isFed_46 (by decide) (lvr := [(0, .ref (qM 0)), (1, .int x1), (3, .int x3)]) rfl ?_
  refine z_iinc C dX12_isFed_47 3 rfl 1 (by decide) (by decide) (lvr := [(2, .int 1), (0, .ref (qM 0)), (1, .int x1)]) rfl h (fun x3_1 h => ?_)
  refine z_goto C dX12_isFed_50 4 (by decide) ?_
  refine z_perm [2, 3, 1, 0] (lv' := [(0, .ref (qM 0)), (1, .int x1), (2, .int 1), (3, .int x3_1)]) rfl ?_
  exact hK4   _ _ _ h
set_option maxHeartbeats 4000000 in
set_option maxRecDepth 100000 in
theorem kM_isFed_l4b {x : zX} {G : zG} {qM : Nat → Nat} {sM : zSt} {out : Bool} (C : zC x G RX12 cX12_isFed 4 (some .boolean) rmX12_isFed) (O : zO x G (some (.int (zb out))) (wdM G qM sM) 0 0) {K4 : zSt → Int32 → Int32 → Int32 → Option (Bool)} (hK4 : ∀  (x1 : Int32) (x2 : Int32) (x3 : Int32), K4 sM x1 x2 x3 = some out → zW x G 0 0 4 [(0, .ref (qM 0)), (1, .int x1), (2, .int x2), (3, .int x3)] [] (wdM G qM sM))  {x1 : Int32} {x2 : Int32} {x3 : Int32} (h : fM_isFed_l4b K4 sM x1 x2 x3 = some out) : zW x G 0 0 4 [(0, .ref (qM 0)), (1, .int x1), (2, .int x2), (3, .int x3)] [] (wdM G qM sM) := by
  unfold fM_isFed_l4b at h
  refine z_iload_n C dX12_isFed_4 3 rfl ?_
  refine z_aload_n C dX12_isFed_5 0 rfl ?_
  refine rw_g_X12_294_M_M C dX12_isFed_6 ?_
  refine z_icmp_ge C dX12_isFed_9 53 (by decide) h (fun h => ?_) (fun h => ?_)
  · refine z_iload_n C dX12_isFed_53 2 rfl ?_
    refine z_st (congrArg (fun v => [Value.int v]) (zbo_e (zg_o h).1)) ?_
    replace h := (zg_o h).2
    replace h := Option.some.inj h
    subst h
    exact z_zret C O dX12_isFed_54 (zb_nar (decide (x2 = 1))) rfl rfl
  · refine z_iload_n C dX12_isFed_12 2 rfl ?_
    refine z_if_ne C dX12_isFed_13 41 (by decide) h (fun h => ?_) (fun h => ?_)
    · refine z_perm [0, 1, 3] (lv' := [(0, .ref (qM 0)), (1, .int x1), (3, .int x3)]) rfl ?_
      exact kM_isFed_b41 C O hK4 h
    · refine z_aload_n C dX12_isFed_16 0 rfl ?_
      refine rw_g_X12_70_M_M C dX12_isFed_17 ?_
      refine z_iload_n C dX12_isFed_20 3 rfl ?_
      refine rw_l_M_M_41 C dX12_isFed_21 h (fun h => ?_)
      refine z_iload_n C dX12_isFed_22 1 rfl ?_
      refine z_icmp_ne C dX12_isFed_23 45 (by decide) h (fun h => ?_) (fun h => ?_)
      · refine z_iconst C 0 dX12_isFed_45 (by decide) ?_
        refine z_istore_n C dX12_isFed_46 (by decide) (lvr := [(0, .ref (qM 0)), (1, .int x1), (3, .int x3)]) rfl ?_
        refine z_iinc C dX12_isFed_47 3 rfl 1 (by decide) (by decide) (lvr := [(2, .int 0), (0, .ref (qM 0)), (1, .int x1)]) rfl h (fun x3_2 h => ?_)
        refine z_goto C dX12_isFed_50 4 (by decide) ?_
        refine z_perm [2, 3, 1, 0] (lv' := [(0, .ref (qM 0)), (1, .int x1), (2, .int 0), (3, .int x3_2)]) rfl ?_
        exact hK4   _ _ _ h
      · refine z_aload_n C dX12_isFed_26 0 rfl ?_
        refine rw_g_X12_73_M_M C dX12_isFed_27 ?_
        refine z_iload_n C dX12_isFed_30 3 rfl ?_
        refine rw_l_M_M_42 C dX12_isFed_31 h (fun h => ?_)
        refine z_aload_n C dX12_isFed_32 0 rfl ?_
        refine rw_g_X12_37_M_M C dX12_isFed_33 ?_
        refine z_iload_n C dX12_isFed_36 1 rfl ?_
        refine rw_l_M_M_29 C dX12_isFed_37 h (fun h => ?_)
        refine z_icmp_eq C dX12_isFed_38 45 (by decide) h (fun h => ?_) (fun h => ?_)
        · refine z_iconst C 0 dX12_isFed_45 (by decide) ?_
          refine z_istore_n C dX12_isFed_46 (by decide) (lvr := [(0, .ref (qM 0)), (1, .int x1), (3, .int x3)]) rfl ?_
          refine z_iinc C dX12_isFed_47 3 rfl 1 (by decide) (by decide) (lvr := [(2, .int 0), (0, .ref (qM 0)), (1, .int x1)]) rfl h (fun x3_3 h => ?_)
          refine z_goto C dX12_isFed_50 4 (by decide) ?_
          refine z_perm [2, 3, 1, 0] (lv' := [(0, .ref (qM 0)), (1, .int x1), (2, .int 0), (3, .int x3_3)]) rfl ?_
          exact hK4   _ _ _ h
        · refine z_perm [0, 1, 3] (lv' := [(0, .ref (qM 0)), (1, .int x1), (3, .int x3)]) rfl ?_
          exact kM_isFed_b41 C O hK4 h
set_option maxHeartbeats 4000000 in
set_option maxRecDepth 100000 in
theorem kM_isFed_l4 {x : zX} {G : zG} {qM : Nat → Nat} {sM : zSt} {out : Bool} (C : zC x G RX12 cX12_isFed 4 (some .boolean) rmX12_isFed) (O : zO x G (some (.int (zb out))) (wdM G qM sM) 0 0)  : ∀ (n : Nat)  {x1 : Int32} {x2 : Int32} {x3 : Int32}, fM_isFed_l4  n sM x1 x2 x3 = some out → zW x G 0 0 4 [(0, .ref (qM 0)), (1, .int x1), (2, .int x2), (3, .int x3)] [] (wdM G qM sM) := by
  intro n
  induction n with
  | zero =>
    intro  x1 x2 x3 h
    have h : (none : Option (Bool)) = some out := h
    cases h
  | succ n ih =>
    intro  x1 x2 x3 h
    exact kM_isFed_l4b C O (K4 := fun v0 v1 v2 v3 => fM_isFed_l4  n v0 v1 v2 v3) (fun  x1 x2 x3 h => ih h) h
set_option maxHeartbeats 4000000 in
set_option maxRecDepth 100000 in
theorem cM_isFed {l : Launch} {G : zG} {qM : Nat → Nat} {sM : zSt} {a0 : Int32} {out : Bool} (h : fM_isFed sM a0 = some out) : Ct l G yX12_isFed cX12_isFed 4 (some .boolean) rmX12_isFed [.ref (qM 0), .int a0] (wdM G qM sM) (some (.int (zb out))) (wdM G qM sM) := by
  refine zMet (own := RX12) rfl (by decide) (Nat.le_of_ble_eq_true rfl) (fun x hl C O => ?_)
  show zW x G 0 0 0 [(0, .ref (qM 0)), (1, .int a0)] [] _
  unfold fM_isFed at h
  refine z_iconst C 0 dX12_isFed_0 (by decide) ?_
  refine z_istore_n C dX12_isFed_1 (by decide) (lvr := [(0, .ref (qM 0)), (1, .int a0)]) rfl ?_
  refine z_iconst C 0 dX12_isFed_2 (by decide) ?_
  refine z_istore_n C dX12_isFed_3 (by decide) (lvr := [(2, .int 0), (0, .ref (qM 0)), (1, .int a0)]) rfl ?_
  refine z_perm [2, 3, 1, 0] (lv' := [(0, .ref (qM 0)), (1, .int a0), (2, .int 0), (3, .int 0)]) rfl ?_
  exact kM_isFed_l4 C O  zF h
set_option maxHeartbeats 4000000 in
set_option maxRecDepth 100000 in
theorem cM_kindOf {l : Launch} {G : zG} {qM : Nat → Nat} {sM : zSt} {a0 : Int32} {out : Int32} (h : fM_kindOf sM a0 = some out) : Ct l G yX12_kindOf cX12_kindOf 2 (some .int) rmX12_kindOf [.ref (qM 0), .int a0] (wdM G qM sM) (some (.int out)) (wdM G qM sM) := by
  refine zMet (own := RX12) rfl (by decide) (Nat.le_of_ble_eq_true rfl) (fun x hl C O => ?_)
  show zW x G 0 0 0 [(0, .ref (qM 0)), (1, .int a0)] [] _
  unfold fM_kindOf at h
  refine z_aload_n C dX12_kindOf_0 0 rfl ?_
  refine rw_g_X12_37_M_M C dX12_kindOf_1 ?_
  refine z_iload_n C dX12_kindOf_4 1 rfl ?_
  refine rw_l_M_M_29 C dX12_kindOf_5 h (fun h => ?_)
  refine z_iconst C 2 dX12_kindOf_6 (by decide) ?_
  refine z_icmp_ne C dX12_kindOf_7 26 (by decide) h (fun h => ?_) (fun h => ?_)
  · refine z_aload_n C dX12_kindOf_26 0 rfl ?_
    refine z_iload_n C dX12_kindOf_27 1 rfl ?_
    obtain ⟨y1, hy1, h⟩ := bind_o h
    refine rw_c_X12_381 C (cM_isFed hy1) 0 rfl dX12_kindOf_28 (Nat.le_of_ble_eq_true rfl) (zrm rfl) ?_
    refine z_ifb_ne C dX12_kindOf_31 38 (by decide) h (fun h => ?_) (fun h => ?_)
    · refine z_aload_n C dX12_kindOf_38 0 rfl ?_
      refine rw_g_X12_40_M_M C dX12_kindOf_39 ?_
      refine z_iload_n C dX12_kindOf_42 1 rfl ?_
      refine rw_l_M_M_30 C dX12_kindOf_43 h (fun h => ?_)
      refine z_aload_n C dX12_kindOf_44 0 rfl ?_
      refine rw_g_X12_37_M_M C dX12_kindOf_45 ?_
      refine z_iload_n C dX12_kindOf_48 1 rfl ?_
      refine rw_l_M_M_29 C dX12_kindOf_49 h (fun h => ?_)
      refine z_icmp_ne C dX12_kindOf_50 57 (by decide) h (fun h => ?_) (fun h => ?_)
      · refine z_iconst C 4 dX12_kindOf_57 (by decide) ?_
        replace h := Option.some.inj h
        subst h
        exact z_iret C O dX12_kindOf_58 rfl rfl
      · refine z_iconst C 3 dX12_kindOf_53 (by decide) ?_
        refine z_goto C dX12_kindOf_54 58 (by decide) ?_
        replace h := Option.some.inj h
        subst h
        exact z_iret C O dX12_kindOf_58 rfl rfl
    · refine z_iconst C 1 dX12_kindOf_34 (by decide) ?_
      refine z_goto C dX12_kindOf_35 58 (by decide) ?_
      replace h := Option.some.inj h
      subst h
      exact z_iret C O dX12_kindOf_58 rfl rfl
  · refine z_aload_n C dX12_kindOf_10 0 rfl ?_
    refine rw_g_X12_61_M_M C dX12_kindOf_11 ?_
    refine z_iload_n C dX12_kindOf_14 1 rfl ?_
    refine rw_l_M_M_37 C dX12_kindOf_15 h (fun h => ?_)
    refine z_iconst C 4 dX12_kindOf_16 (by decide) ?_
    refine z_icmp_ne C dX12_kindOf_17 24 (by decide) h (fun h => ?_) (fun h => ?_)
    · refine z_iconst C 2 dX12_kindOf_24 (by decide) ?_
      replace h := Option.some.inj h
      subst h
      exact z_iret C O dX12_kindOf_25 rfl rfl
    · refine z_iconst C 5 dX12_kindOf_20 (by decide) ?_
      refine z_goto C dX12_kindOf_21 25 (by decide) ?_
      replace h := Option.some.inj h
      subst h
      exact z_iret C O dX12_kindOf_25 rfl rfl
set_option maxHeartbeats 4000000 in
set_option maxRecDepth 100000 in
theorem kM_isOf_b38 {x : zX} {G : zG}   {out : Bool} (C : zC x G RX12 cX12_isOf 2 (some .boolean) rmX12_isOf) (O : zO x G (some (.int (zb out))) ([]) 0 0)   {x0 : Int32} {x1 : Int32} (h : fM_isOf_b38   x0 x1 = some out) : zW x G 0 0 38 [(0, .int x0), (1, .int x1)] [] ([]) := by
  unfold fM_isOf_b38 at h
  refine z_iload_n C dX12_isOf_38 1 rfl ?_
  refine z_iconst C 2 dX12_isOf_39 (by decide) ?_
  refine z_icmp_ne C dX12_isOf_40 52 (by decide) h (fun h => ?_) (fun h => ?_)
  · refine z_iconst C 0 dX12_isOf_52 (by decide) ?_
    replace h := Option.some.inj h
    subst h
    exact z_zret C O dX12_isOf_53 (zb_nar false) rfl rfl
  · refine z_iload_n C dX12_isOf_43 0 rfl ?_
    refine z_iconst C 5 dX12_isOf_44 (by decide) ?_
    refine z_icmp_ne C dX12_isOf_45 52 (by decide) h (fun h => ?_) (fun h => ?_)
    · refine z_iconst C 0 dX12_isOf_52 (by decide) ?_
      replace h := Option.some.inj h
      subst h
      exact z_zret C O dX12_isOf_53 (zb_nar false) rfl rfl
    · refine z_iconst C 1 dX12_isOf_48 (by decide) ?_
      refine z_goto C dX12_isOf_49 53 (by decide) ?_
      replace h := Option.some.inj h
      subst h
      exact z_zret C O dX12_isOf_53 (zb_nar true) rfl rfl
set_option maxHeartbeats 4000000 in
set_option maxRecDepth 100000 in
theorem kM_isOf_b28 {x : zX} {G : zG}   {out : Bool} (C : zC x G RX12 cX12_isOf 2 (some .boolean) rmX12_isOf) (O : zO x G (some (.int (zb out))) ([]) 0 0)   {x0 : Int32} {x1 : Int32} (h : fM_isOf_b28   x0 x1 = some out) : zW x G 0 0 28 [(0, .int x0), (1, .int x1)] [] ([]) := by
  unfold fM_isOf_b28 at h
  refine z_iload_n C dX12_isOf_28 1 rfl ?_
  refine z_iconst C 3 dX12_isOf_29 (by decide) ?_
  refine z_icmp_ne C dX12_isOf_30 38 (by decide) h (fun h => ?_) (fun h => ?_)
  · exact kM_isOf_b38 C O  h
  · refine z_iload_n C dX12_isOf_33 0 rfl ?_
    refine z_iconst C 4 dX12_isOf_34 (by decide) ?_
    refine z_icmp_eq C dX12_isOf_35 48 (by decide) h (fun h => ?_) (fun h => ?_)
    · refine z_iconst C 1 dX12_isOf_48 (by decide) ?_
      refine z_goto C dX12_isOf_49 53 (by decide) ?_
      replace h := Option.some.inj h
      subst h
      exact z_zret C O dX12_isOf_53 (zb_nar true) rfl rfl
    · exact kM_isOf_b38 C O  h
set_option maxHeartbeats 4000000 in
set_option maxRecDepth 100000 in
theorem cM_isOf {l : Launch} {G : zG}   {a0 : Int32} {a1 : Int32} {out : Bool} (h : fM_isOf  a0 a1 = some out) : Ct l G yX12_isOf cX12_isOf 2 (some .boolean) rmX12_isOf [.int a0, .int a1] ([]) (some (.int (zb out))) ([]) := by
  refine zMet (own := RX12) rfl (by decide) (Nat.le_of_ble_eq_true rfl) (fun x hl C O => ?_)
  show zW x G 0 0 0 [(0, .int a0), (1, .int a1)] [] _
  unfold fM_isOf at h
  refine z_iload_n C dX12_isOf_0 1 rfl ?_
  refine z_if_eq C dX12_isOf_1 48 (by decide) h (fun h => ?_) (fun h => ?_)
  · refine z_iconst C 1 dX12_isOf_48 (by decide) ?_
    refine z_goto C dX12_isOf_49 53 (by decide) ?_
    replace h := Option.some.inj h
    subst h
    exact z_zret C O dX12_isOf_53 (zb_nar true) rfl rfl
  · refine z_iload_n C dX12_isOf_4 0 rfl ?_
    refine z_iload_n C dX12_isOf_5 1 rfl ?_
    refine z_icmp_eq C dX12_isOf_6 48 (by decide) h (fun h => ?_) (fun h => ?_)
    · refine z_iconst C 1 dX12_isOf_48 (by decide) ?_
      refine z_goto C dX12_isOf_49 53 (by decide) ?_
      replace h := Option.some.inj h
      subst h
      exact z_zret C O dX12_isOf_53 (zb_nar true) rfl rfl
    · refine z_iload_n C dX12_isOf_9 1 rfl ?_
      refine z_iconst C 1 dX12_isOf_10 (by decide) ?_
      refine z_icmp_ne C dX12_isOf_11 28 (by decide) h (fun h => ?_) (fun h => ?_)
      · exact kM_isOf_b28 C O  h
      · refine z_iload_n C dX12_isOf_14 0 rfl ?_
        refine z_i2l C dX12_isOf_15 ?_
        refine z_ldc2 C rw_u_1314 dX12_isOf_16 ?_
        refine z_ldc2 C rw_u_1398 dX12_isOf_19 ?_
        obtain ⟨y1, hy1, h⟩ := bind_o h
        refine rw_c_X12_118 C (cM_in hy1) dX12_isOf_22 (Nat.le_of_ble_eq_true rfl) (zrm rfl) ?_
        refine z_ifb_ne C dX12_isOf_25 48 (by decide) h (fun h => ?_) (fun h => ?_)
        · refine z_iconst C 1 dX12_isOf_48 (by decide) ?_
          refine z_goto C dX12_isOf_49 53 (by decide) ?_
          replace h := Option.some.inj h
          subst h
          exact z_zret C O dX12_isOf_53 (zb_nar true) rfl rfl
        · exact kM_isOf_b28 C O  h
set_option maxHeartbeats 4000000 in
set_option maxRecDepth 100000 in
theorem cM_kind {l : Launch} {G : zG} {qM : Nat → Nat} {sM : zSt} {a0 : Int32} {out : Int64 × zSt} (h : fM_kind sM a0 = some out) : Ct l G yX12_kind cX12_kind 2 (some .long) rmX12_kind [.ref (qM 0), .int a0] (wdM G qM sM) (some (.long out.1)) (wdM G qM out.2) := by
  refine zMet (own := RX12) rfl (by decide) (Nat.le_of_ble_eq_true rfl) (fun x hl C O => ?_)
  show zW x G 0 0 0 [(0, .ref (qM 0)), (1, .int a0)] [] _
  unfold fM_kind at h
  refine z_aload_n C dX12_kind_0 0 rfl ?_
  refine z_iconst C 0 dX12_kind_1 (by decide) ?_
  refine rw_p_X12_107_M_M C dX12_kind_2 h (fun sM1 h => ?_)
  refine z_aload_n C dX12_kind_5 0 rfl ?_
  refine z_iload_n C dX12_kind_6 1 rfl ?_
  obtain ⟨y2, hy2, h⟩ := bind_o h
  refine rw_c_X12_320 C (cM_isThing hy2) 0 rfl dX12_kind_7 (Nat.le_of_ble_eq_true rfl) (zrm rfl) ?_
  refine z_ifb_ne C dX12_kind_10 17 (by decide) h (fun h => ?_) (fun h => ?_)
  · refine z_aload_n C dX12_kind_17 0 rfl ?_
    obtain ⟨y3, hy3, h⟩ := bind_o h
    refine rw_c_X12_329 C (cM_goAll hy3) 0 rfl dX12_kind_18 (Nat.le_of_ble_eq_true rfl) (zrm rfl) ?_
    refine z_aload_n C dX12_kind_21 0 rfl ?_
    refine z_iload_n C dX12_kind_22 1 rfl ?_
    obtain ⟨y4, hy4, h⟩ := bind_o h
    refine rw_c_X12_386 C (cM_kindOf hy4) 0 rfl dX12_kind_23 (Nat.le_of_ble_eq_true rfl) (zrm rfl) ?_
    refine z_i2l C dX12_kind_26 ?_
    replace h := Option.some.inj h
    subst h
    exact z_lret C O dX12_kind_27 rfl rfl
  · refine z_ldc2 C rw_u_1138 dX12_kind_13 ?_
    replace h := Option.some.inj h
    subst h
    exact z_lret C O dX12_kind_16 rfl rfl
set_option maxHeartbeats 4000000 in
set_option maxRecDepth 100000 in
theorem cM_as {l : Launch} {G : zG} {qM : Nat → Nat} {sM : zSt} {a0 : Int32} {a1 : Int32} {out : Int64 × zSt} (h : fM_as sM a0 a1 = some out) : Ct l G yX12_as cX12_as 3 (some .long) rmX12_as [.ref (qM 0), .int a0, .int a1] (wdM G qM sM) (some (.long out.1)) (wdM G qM out.2) := by
  refine zMet (own := RX12) rfl (by decide) (Nat.le_of_ble_eq_true rfl) (fun x hl C O => ?_)
  show zW x G 0 0 0 [(0, .ref (qM 0)), (1, .int a0), (2, .int a1)] [] _
  unfold fM_as at h
  refine z_aload_n C dX12_as_0 0 rfl ?_
  refine z_iconst C 0 dX12_as_1 (by decide) ?_
  refine rw_p_X12_107_M_M C dX12_as_2 h (fun sM1 h => ?_)
  refine z_aload_n C dX12_as_5 0 rfl ?_
  refine z_iload_n C dX12_as_6 1 rfl ?_
  obtain ⟨y2, hy2, h⟩ := bind_o h
  refine rw_c_X12_320 C (cM_isThing hy2) 0 rfl dX12_as_7 (Nat.le_of_ble_eq_true rfl) (zrm rfl) ?_
  refine z_ifb_eq C dX12_as_10 25 (by decide) h (fun h => ?_) (fun h => ?_)
  · refine z_ldc2 C rw_u_1138 dX12_as_25 ?_
    replace h := Option.some.inj h
    subst h
    exact z_lret C O dX12_as_28 rfl rfl
  · refine z_iload_n C dX12_as_13 2 rfl ?_
    refine z_i2l C dX12_as_14 ?_
    refine z_lconst C 0 dX12_as_15 (by decide) ?_
    refine z_ldc2 C rw_u_1394 dX12_as_16 ?_
    obtain ⟨y3, hy3, h⟩ := bind_o h
    refine rw_c_X12_118 C (Ct.frame0 (cM_in hy3)) dX12_as_19 (Nat.le_of_ble_eq_true rfl) (zrm rfl) ?_
    refine z_ifb_ne C dX12_as_22 29 (by decide) h (fun h => ?_) (fun h => ?_)
    · refine z_aload_n C dX12_as_29 0 rfl ?_
      refine z_iconst C 0 dX12_as_30 (by decide) ?_
      refine rw_p_X12_111_M_M C dX12_as_31 h (fun sM4 h => ?_)
      refine z_aload_n C dX12_as_34 0 rfl ?_
      obtain ⟨y5, hy5, h⟩ := bind_o h
      refine rw_c_X12_329 C (cM_goAll hy5) 0 rfl dX12_as_35 (Nat.le_of_ble_eq_true rfl) (zrm rfl) ?_
      refine z_aload_n C dX12_as_38 0 rfl ?_
      refine z_iload_n C dX12_as_39 1 rfl ?_
      obtain ⟨y6, hy6, h⟩ := bind_o h
      refine rw_c_X12_386 C (cM_kindOf hy6) 0 rfl dX12_as_40 (Nat.le_of_ble_eq_true rfl) (zrm rfl) ?_
      refine z_iload_n C dX12_as_43 2 rfl ?_
      obtain ⟨y7, hy7, h⟩ := bind_o h
      refine rw_c_X12_391 C (Ct.frame0 (cM_isOf hy7)) dX12_as_44 (Nat.le_of_ble_eq_true rfl) (zrm rfl) ?_
      refine z_ifb_eq C dX12_as_47 55 (by decide) h (fun h => ?_) (fun h => ?_)
      · refine z_aload_n C dX12_as_55 0 rfl ?_
        refine z_iconst C 3 dX12_as_56 (by decide) ?_
        obtain ⟨y8, hy8, h⟩ := bind_o h
        refine rw_c_X12_130 C (cM_finding hy8) 0 rfl dX12_as_57 (Nat.le_of_ble_eq_true rfl) (zrm rfl) ?_
        replace h := Option.some.inj h
        subst h
        exact z_lret C O dX12_as_60 rfl rfl
      · refine z_iload_n C dX12_as_50 1 rfl ?_
        refine z_i2l C dX12_as_51 ?_
        refine z_goto C dX12_as_52 60 (by decide) ?_
        replace h := Option.some.inj h
        subst h
        exact z_lret C O dX12_as_60 rfl rfl
    · refine z_ldc2 C rw_u_1138 dX12_as_25 ?_
      replace h := Option.some.inj h
      subst h
      exact z_lret C O dX12_as_28 rfl rfl
set_option maxHeartbeats 4000000 in
set_option maxRecDepth 100000 in
theorem cM_began {l : Launch} {G : zG} {qM : Nat → Nat} {sM : zSt} {a0 : Int32} {out : zSt} (h : fM_began sM a0 = some out) : Ct l G yX12_began cX12_began 2 none rmX12_began [.ref (qM 0), .int a0] (wdM G qM sM) none (wdM G qM out) := by
  refine zMet (own := RX12) rfl (by decide) (Nat.le_of_ble_eq_true rfl) (fun x hl C O => ?_)
  show zW x G 0 0 0 [(0, .ref (qM 0)), (1, .int a0)] [] _
  unfold fM_began at h
  refine z_aload_n C dX12_began_0 0 rfl ?_
  refine rw_g_X12_395_M_M C dX12_began_1 ?_
  refine z_bipush C 16 dX12_began_4 (by decide) ?_
  refine z_icmp_ge C dX12_began_6 29 (by decide) h (fun h => ?_) (fun h => ?_)
  · replace h := Option.some.inj h
    subst h
    exact z_vret C O dX12_began_29 rfl rfl
  · refine z_aload_n C dX12_began_9 0 rfl ?_
    refine rw_g_X12_104_M_M C dX12_began_10 ?_
    refine z_aload_n C dX12_began_13 0 rfl ?_
    refine rw_g_X12_395_M_M C dX12_began_14 ?_
    refine z_iload_n C dX12_began_17 1 rfl ?_
    refine rw_s_M_M_53 C dX12_began_18 h (fun sM1 h => ?_)
    refine z_aload_n C dX12_began_19 0 rfl ?_
    refine z_dup C dX12_began_20 rfl ?_
    refine rw_g_X12_395_M_M C dX12_began_21 ?_
    refine z_iconst C 1 dX12_began_24 (by decide) ?_
    refine z_iadd C dX12_began_25 ?_
    refine rw_p_X12_395_M_M C dX12_began_26 h (fun sM2 h => ?_)
    replace h := Option.some.inj h
    subst h
    exact z_vret C O dX12_began_29 rfl rfl
set_option maxHeartbeats 4000000 in
set_option maxRecDepth 100000 in
theorem cM_commonSize {l : Launch} {G : zG} {qM : Nat → Nat} {sM : zSt} {a0 : Int32} {out : Int32 × zSt} (h : fM_commonSize sM a0 = some out) : Ct l G yX12_commonSize cX12_commonSize 2 (some .int) rmX12_commonSize [.ref (qM 0), .int a0] (wdM G qM sM) (some (.int out.1)) (wdM G qM out.2) := by
  refine zMet (own := RX12) rfl (by decide) (Nat.le_of_ble_eq_true rfl) (fun x hl C O => ?_)
  show zW x G 0 0 0 [(0, .ref (qM 0)), (1, .int a0)] [] _
  unfold fM_commonSize at h
  refine z_aload_n C dX12_commonSize_0 0 rfl ?_
  refine z_bipush C 14 dX12_commonSize_1 (by decide) ?_
  obtain ⟨y1, hy1, h⟩ := bind_o h
  refine rw_c_X12_398 C (cM_began hy1) 0 rfl dX12_commonSize_3 (Nat.le_of_ble_eq_true rfl) (zrm rfl) ?_
  refine z_aload_n C dX12_commonSize_6 0 rfl ?_
  refine z_bipush C 10 dX12_commonSize_7 (by decide) ?_
  obtain ⟨y2, hy2, h⟩ := bind_o h
  refine rw_c_X12_398 C (cM_began hy2) 0 rfl dX12_commonSize_9 (Nat.le_of_ble_eq_true rfl) (zrm rfl) ?_
  refine z_iconst C 3 dX12_commonSize_12 (by decide) ?_
  refine z_aload_n C dX12_commonSize_13 0 rfl ?_
  refine rw_g_X12_52_M_M C dX12_commonSize_14 ?_
  refine z_iload_n C dX12_commonSize_17 1 rfl ?_
  refine rw_l_M_M_34 C dX12_commonSize_18 h (fun h => ?_)
  refine z_imul C dX12_commonSize_19 ?_
  replace h := Option.some.inj h
  subst h
  exact z_iret C O dX12_commonSize_20 rfl rfl
set_option maxHeartbeats 4000000 in
set_option maxRecDepth 100000 in
theorem kM_markOf_b78 {x : zX} {G : zG} {qM : Nat → Nat}  {out : Int32 × zSt} (C : zC x G RX12 cX12_markOf 5 (some .int) rmX12_markOf) (O : zO x G (some (.int out.1)) (wdM G qM out.2) 0 0)  {sM : zSt} {x1 : Int32} {x2 : Int32} {t0 : Int32} {t1 : Int32} (h : fM_markOf_b78  sM x1 x2 t0 t1 = some out) : zW x G 0 0 78 [(0, .ref (qM 0)), (1, .int x1), (2, .int x2)] [.int t0, .int t1] (wdM G qM sM) := by
  unfold fM_markOf_b78 at h
  refine z_iadd C dX12_markOf_78 ?_
  refine z_istoreN C dX12_markOf_79 (by decide) (lvr := [(0, .ref (qM 0)), (1, .int x1), (2, .int x2)]) rfl h (fun x4_5 h => ?_)
  refine z_iload_n C dX12_markOf_81 3 rfl ?_
  refine z_iconst C 5 dX12_markOf_82 (by decide) ?_
  refine z_icmp_ne C dX12_markOf_83 97 (by decide) h (fun h => ?_) (fun h => ?_)
  · refine z_iload C dX12_markOf_97 0 rfl ?_
    replace h := Option.some.inj h
    subst h
    exact z_iret C O dX12_markOf_99 rfl rfl
  · refine z_iload C dX12_markOf_86 0 rfl ?_
    refine z_aload_n C dX12_markOf_88 1 rfl ?_
    refine z_iload_n C dX12_markOf_89 2 rfl ?_
    obtain ⟨y6, hy6, h⟩ := bind_o h
    refine rw_c_X12_401 C (cM_commonSize hy6) 0 rfl dX12_markOf_90 (Nat.le_of_ble_eq_true rfl) (zrm rfl) ?_
    refine z_iadd C dX12_markOf_93 ?_
    refine z_goto C dX12_markOf_94 99 (by decide) ?_
    replace h := Option.some.inj h
    subst h
    exact z_iret C O dX12_markOf_99 rfl rfl
set_option maxHeartbeats 4000000 in
set_option maxRecDepth 100000 in
theorem kM_markOf_b66 {x : zX} {G : zG} {qM : Nat → Nat}  {out : Int32 × zSt} (C : zC x G RX12 cX12_markOf 5 (some .int) rmX12_markOf) (O : zO x G (some (.int out.1)) (wdM G qM out.2) 0 0)  {sM : zSt} {x1 : Int32} {x2 : Int32} {t0 : Int32} {t1 : Int32} (h : fM_markOf_b66  sM x1 x2 t0 t1 = some out) : zW x G 0 0 66 [(0, .ref (qM 0)), (1, .int x1), (2, .int x2)] [.int t0, .int t1] (wdM G qM sM) := by
  unfold fM_markOf_b66 at h
  refine z_iadd C dX12_markOf_66 ?_
  refine z_iload_n C dX12_markOf_67 2 rfl ?_
  refine z_iconst C 4 dX12_markOf_68 (by decide) ?_
  refine z_icmp_ne C dX12_markOf_69 77 (by decide) h (fun h => ?_) (fun h => ?_)
  · refine z_iconst C 0 dX12_markOf_77 (by decide) ?_
    exact kM_markOf_b78 C O  h
  · refine z_bipush C 100 dX12_markOf_72 (by decide) ?_
    refine z_goto C dX12_markOf_74 78 (by decide) ?_
    exact kM_markOf_b78 C O  h
set_option maxHeartbeats 4000000 in
set_option maxRecDepth 100000 in
theorem kM_markOf_b42 {x : zX} {G : zG} {qM : Nat → Nat}  {out : Int32 × zSt} (C : zC x G RX12 cX12_markOf 5 (some .int) rmX12_markOf) (O : zO x G (some (.int out.1)) (wdM G qM out.2) 0 0)  {sM : zSt} {x1 : Int32} {x2 : Int32} {x3 : Int32} (h : fM_markOf_b42  sM x1 x2 x3 = some out) : zW x G 0 0 42 [(0, .ref (qM 0)), (1, .int x1), (2, .int x2), (3, .int x3)] [] (wdM G qM sM) := by
  unfold fM_markOf_b42 at h
  refine z_aload_n C dX12_markOf_42 0 rfl ?_
  refine z_bipush C 20 dX12_markOf_43 (by decide) ?_
  obtain ⟨y4, hy4, h⟩ := bind_o h
  refine rw_c_X12_398 C (cM_began hy4) 0 rfl dX12_markOf_45 (Nat.le_of_ble_eq_true rfl) (zrm rfl) ?_
  refine z_iload_n C dX12_markOf_48 1 rfl ?_
  refine z_iload_n C dX12_markOf_49 3 rfl ?_
  refine z_if_eq C dX12_markOf_50 65 (by decide) h (fun h => ?_) (fun h => ?_)
  · refine z_iconst C 0 dX12_markOf_65 (by decide) ?_
    refine z_perm [0, 1, 2] (lv' := [(0, .ref (qM 0)), (1, .int x1), (2, .int x2)]) rfl ?_
    exact kM_markOf_b66 C O  h
  · refine z_bipush C 10 dX12_markOf_53 (by decide) ?_
    refine z_aload_n C dX12_markOf_55 0 rfl ?_
    refine rw_g_X12_37_M_M C dX12_markOf_56 ?_
    refine z_iload_n C dX12_markOf_59 1 rfl ?_
    refine rw_l_M_M_29 C dX12_markOf_60 h (fun h => ?_)
    refine z_imul C dX12_markOf_61 ?_
    refine z_goto C dX12_markOf_62 66 (by decide) ?_
    refine z_perm [0, 1, 2] (lv' := [(0, .ref (qM 0)), (1, .int x1), (2, .int x2)]) rfl ?_
    exact kM_markOf_b66 C O  h
set_option maxHeartbeats 4000000 in
set_option maxRecDepth 100000 in
theorem kM_markOf_b26 {x : zX} {G : zG} {qM : Nat → Nat}  {out : Int32 × zSt} (C : zC x G RX12 cX12_markOf 5 (some .int) rmX12_markOf) (O : zO x G (some (.int out.1)) (wdM G qM out.2) 0 0)  {sM : zSt} {x1 : Int32} {x2 : Int32} (h : fM_markOf_b26  sM x1 x2 = some out) : zW x G 0 0 26 [(0, .ref (qM 0)), (1, .int x1), (2, .int x2)] [] (wdM G qM sM) := by
  unfold fM_markOf_b26 at h
  refine z_iload_n C dX12_markOf_26 2 rfl ?_
  refine z_iconst C 1 dX12_markOf_27 (by decide) ?_
  obtain ⟨y2, hy2, h⟩ := bind_o h
  refine rw_c_X12_391 C (Ct.frame0 (cM_isOf hy2)) dX12_markOf_28 (Nat.le_of_ble_eq_true rfl) (zrm rfl) ?_
  refine z_istore_nN C dX12_markOf_31 (by decide) (lvr := [(0, .ref (qM 0)), (1, .int x1), (2, .int x2)]) rfl h (fun x3_3 h => ?_)
  refine z_iload_n C dX12_markOf_32 0 rfl ?_
  refine z_if_eq C dX12_markOf_33 42 (by decide) h (fun h => ?_) (fun h => ?_)
  · refine z_perm [1, 2, 3, 0] (lv' := [(0, .ref (qM 0)), (1, .int x1), (2, .int x2), (3, .int x3_3)]) rfl ?_
    exact kM_markOf_b42 C O  h
  · refine z_aload_n C dX12_markOf_36 1 rfl ?_
    refine z_bipush C 21 dX12_markOf_37 (by decide) ?_
    obtain ⟨y7, hy7, h⟩ := bind_o h
    refine rw_c_X12_398 C (cM_began hy7) 0 rfl dX12_markOf_39 (Nat.le_of_ble_eq_true rfl) (zrm rfl) ?_
    refine z_perm [1, 2, 3, 0] (lv' := [(0, .ref (qM 0)), (1, .int x1), (2, .int x2), (3, .int x3_3)]) rfl ?_
    exact kM_markOf_b42 C O  h
set_option maxHeartbeats 4000000 in
set_option maxRecDepth 100000 in
theorem kM_markOf_b10 {x : zX} {G : zG} {qM : Nat → Nat}  {out : Int32 × zSt} (C : zC x G RX12 cX12_markOf 5 (some .int) rmX12_markOf) (O : zO x G (some (.int out.1)) (wdM G qM out.2) 0 0)  {sM : zSt} {x1 : Int32} {x2 : Int32} (h : fM_markOf_b10  sM x1 x2 = some out) : zW x G 0 0 10 [(0, .ref (qM 0)), (1, .int x1), (2, .int x2)] [] (wdM G qM sM) := by
  unfold fM_markOf_b10 at h
  refine z_aload_n C dX12_markOf_10 0 rfl ?_
  refine z_iload_n C dX12_markOf_11 2 rfl ?_
  refine z_iconst C 4 dX12_markOf_12 (by decide) ?_
  refine z_icmp_ne C dX12_markOf_13 21 (by decide) h (fun h => ?_) (fun h => ?_)
  · refine z_bipush C 22 dX12_markOf_21 (by decide) ?_
    obtain ⟨y1, hy1, h⟩ := bind_o h
    refine rw_c_X12_398 C (cM_began hy1) 0 rfl dX12_markOf_23 (Nat.le_of_ble_eq_true rfl) (zrm rfl) ?_
    exact kM_markOf_b26 C O  h
  · refine z_bipush C 23 dX12_markOf_16 (by decide) ?_
    refine z_goto C dX12_markOf_18 23 (by decide) ?_
    obtain ⟨y8, hy8, h⟩ := bind_o h
    refine rw_c_X12_398 C (cM_began hy8) 0 rfl dX12_markOf_23 (Nat.le_of_ble_eq_true rfl) (zrm rfl) ?_
    exact kM_markOf_b26 C O  h
set_option maxHeartbeats 4000000 in
set_option maxRecDepth 100000 in
theorem cM_markOf {l : Launch} {G : zG} {qM : Nat → Nat} {sM : zSt} {a0 : Int32} {a1 : Int32} {out : Int32 × zSt} (h : fM_markOf sM a0 a1 = some out) : Ct l G yX12_markOf cX12_markOf 5 (some .int) rmX12_markOf [.ref (qM 0), .int a0, .int a1] (wdM G qM sM) (some (.int out.1)) (wdM G qM out.2) := by
  refine zMet (own := RX12) rfl (by decide) (Nat.le_of_ble_eq_true rfl) (fun x hl C O => ?_)
  show zW x G 0 0 0 [(0, .ref (qM 0)), (1, .int a0), (2, .int a1)] [] _
  unfold fM_markOf at h
  refine z_iload_n C dX12_markOf_0 2 rfl ?_
  refine z_iconst C 4 dX12_markOf_1 (by decide) ?_
  refine z_icmp_eq C dX12_markOf_2 10 (by decide) h (fun h => ?_) (fun h => ?_)
  · exact kM_markOf_b10 C O  h
  · refine z_iload_n C dX12_markOf_5 2 rfl ?_
    refine z_iconst C 5 dX12_markOf_6 (by decide) ?_
    refine z_icmp_ne C dX12_markOf_7 26 (by decide) h (fun h => ?_) (fun h => ?_)
    · exact kM_markOf_b26 C O  h
    · exact kM_markOf_b10 C O  h
set_option maxHeartbeats 4000000 in
set_option maxRecDepth 100000 in
theorem kM_sizeOf_b83 {x : zX} {G : zG} {qM : Nat → Nat}  {out : Int32 × zSt} (C : zC x G RX12 cX12_sizeOf 4 (some .int) rmX12_sizeOf) (O : zO x G (some (.int out.1)) (wdM G qM out.2) 0 0)  {sM : zSt} {x2 : Int32} {t0 : Int32} {t1 : Int32} (h : fM_sizeOf_b83  sM x2 t0 t1 = some out) : zW x G 0 0 83 [(2, .int x2)] [.int t0, .int t1] (wdM G qM sM) := by
  unfold fM_sizeOf_b83 at h
  refine z_isub C dX12_sizeOf_83 ?_
  refine z_istore_nN C dX12_sizeOf_84 (by decide) (lvr := [(2, .int x2)]) rfl h (fun x3_8 h => ?_)
  refine z_iload_n C dX12_sizeOf_85 1 rfl ?_
  refine z_iconst C 4 dX12_sizeOf_86 (by decide) ?_
  refine z_icmp_ne C dX12_sizeOf_87 96 (by decide) h (fun h => ?_) (fun h => ?_)
  · refine z_iload_n C dX12_sizeOf_96 0 rfl ?_
    replace h := Option.some.inj h
    subst h
    exact z_iret C O dX12_sizeOf_97 rfl rfl
  · refine z_iconst C 2 dX12_sizeOf_90 (by decide) ?_
    refine z_iload_n C dX12_sizeOf_91 0 rfl ?_
    refine z_imul C dX12_sizeOf_92 ?_
    refine z_goto C dX12_sizeOf_93 97 (by decide) ?_
    replace h := Option.some.inj h
    subst h
    exact z_iret C O dX12_sizeOf_97 rfl rfl
set_option maxHeartbeats 4000000 in
set_option maxRecDepth 100000 in
theorem kM_sizeOf_b39 {x : zX} {G : zG} {qM : Nat → Nat}  {out : Int32 × zSt} (C : zC x G RX12 cX12_sizeOf 4 (some .int) rmX12_sizeOf) (O : zO x G (some (.int out.1)) (wdM G qM out.2) 0 0)  {sM : zSt} {x1 : Int32} {x2 : Int32} (h : fM_sizeOf_b39  sM x1 x2 = some out) : zW x G 0 0 39 [(0, .ref (qM 0)), (1, .int x1), (2, .int x2)] [] (wdM G qM sM) := by
  unfold fM_sizeOf_b39 at h
  refine z_aload_n C dX12_sizeOf_39 0 rfl ?_
  refine z_bipush C 11 dX12_sizeOf_40 (by decide) ?_
  obtain ⟨y3, hy3, h⟩ := bind_o h
  refine rw_c_X12_398 C (cM_began hy3) 0 rfl dX12_sizeOf_42 (Nat.le_of_ble_eq_true rfl) (zrm rfl) ?_
  refine z_aload_n C dX12_sizeOf_45 0 rfl ?_
  refine z_bipush C 10 dX12_sizeOf_46 (by decide) ?_
  obtain ⟨y4, hy4, h⟩ := bind_o h
  refine rw_c_X12_398 C (cM_began hy4) 0 rfl dX12_sizeOf_48 (Nat.le_of_ble_eq_true rfl) (zrm rfl) ?_
  refine z_aload_n C dX12_sizeOf_51 0 rfl ?_
  refine rw_g_X12_52_M_M C dX12_sizeOf_52 ?_
  refine z_iload_n C dX12_sizeOf_55 1 rfl ?_
  refine rw_l_M_M_34 C dX12_sizeOf_56 h (fun h => ?_)
  refine z_aload_n C dX12_sizeOf_57 0 rfl ?_
  refine z_iload_n C dX12_sizeOf_58 1 rfl ?_
  refine z_iload_n C dX12_sizeOf_59 2 rfl ?_
  obtain ⟨y5, hy5, h⟩ := bind_o h
  refine rw_c_X12_404 C (cM_markOf hy5) 0 rfl dX12_sizeOf_60 (Nat.le_of_ble_eq_true rfl) (zrm rfl) ?_
  refine z_iadd C dX12_sizeOf_63 ?_
  refine z_istore_nN C dX12_sizeOf_64 (by decide) (lvr := [(0, .ref (qM 0)), (1, .int x1), (2, .int x2)]) rfl h (fun x3_6 h => ?_)
  refine z_iload_n C dX12_sizeOf_65 0 rfl ?_
  refine z_iload_n C dX12_sizeOf_66 3 rfl ?_
  refine z_iconst C 3 dX12_sizeOf_67 (by decide) ?_
  obtain ⟨y7, hy7, h⟩ := bind_o h
  refine rw_c_X12_391 C (Ct.frame0 (cM_isOf hy7)) dX12_sizeOf_68 (Nat.le_of_ble_eq_true rfl) (zrm rfl) ?_
  refine z_ifb_eq C dX12_sizeOf_71 82 (by decide) h (fun h => ?_) (fun h => ?_)
  · refine z_iconst C 0 dX12_sizeOf_82 (by decide) ?_
    refine z_perm [3] (lv' := [(2, .int x2)]) rfl ?_
    exact kM_sizeOf_b83 C O  h
  · refine z_aload_n C dX12_sizeOf_74 1 rfl ?_
    refine z_iload_n C dX12_sizeOf_75 2 rfl ?_
    obtain ⟨y9, hy9, h⟩ := bind_o h
    refine rw_c_X12_332 C (cM_putsInto hy9) 0 rfl dX12_sizeOf_76 (Nat.le_of_ble_eq_true rfl) (zrm rfl) ?_
    refine z_goto C dX12_sizeOf_79 83 (by decide) ?_
    refine z_perm [3] (lv' := [(2, .int x2)]) rfl ?_
    exact kM_sizeOf_b83 C O  h
set_option maxHeartbeats 4000000 in
set_option maxRecDepth 100000 in
theorem kM_sizeOf_b25 {x : zX} {G : zG} {qM : Nat → Nat}  {out : Int32 × zSt} (C : zC x G RX12 cX12_sizeOf 4 (some .int) rmX12_sizeOf) (O : zO x G (some (.int out.1)) (wdM G qM out.2) 0 0)  {sM : zSt} {x1 : Int32} {x2 : Int32} (h : fM_sizeOf_b25  sM x1 x2 = some out) : zW x G 0 0 25 [(0, .ref (qM 0)), (1, .int x1), (2, .int x2)] [] (wdM G qM sM) := by
  unfold fM_sizeOf_b25 at h
  refine z_iload_n C dX12_sizeOf_25 2 rfl ?_
  refine z_iconst C 3 dX12_sizeOf_26 (by decide) ?_
  obtain ⟨y2, hy2, h⟩ := bind_o h
  refine rw_c_X12_391 C (Ct.frame0 (cM_isOf hy2)) dX12_sizeOf_27 (Nat.le_of_ble_eq_true rfl) (zrm rfl) ?_
  refine z_ifb_eq C dX12_sizeOf_30 39 (by decide) h (fun h => ?_) (fun h => ?_)
  · exact kM_sizeOf_b39 C O  h
  · refine z_aload_n C dX12_sizeOf_33 0 rfl ?_
    refine z_bipush C 12 dX12_sizeOf_34 (by decide) ?_
    obtain ⟨y10, hy10, h⟩ := bind_o h
    refine rw_c_X12_398 C (cM_began hy10) 0 rfl dX12_sizeOf_36 (Nat.le_of_ble_eq_true rfl) (zrm rfl) ?_
    exact kM_sizeOf_b39 C O  h
set_option maxHeartbeats 4000000 in
set_option maxRecDepth 100000 in
theorem cM_sizeOf {l : Launch} {G : zG} {qM : Nat → Nat} {sM : zSt} {a0 : Int32} {a1 : Int32} {out : Int32 × zSt} (h : fM_sizeOf sM a0 a1 = some out) : Ct l G yX12_sizeOf cX12_sizeOf 4 (some .int) rmX12_sizeOf [.ref (qM 0), .int a0, .int a1] (wdM G qM sM) (some (.int out.1)) (wdM G qM out.2) := by
  refine zMet (own := RX12) rfl (by decide) (Nat.le_of_ble_eq_true rfl) (fun x hl C O => ?_)
  show zW x G 0 0 0 [(0, .ref (qM 0)), (1, .int a0), (2, .int a1)] [] _
  unfold fM_sizeOf at h
  refine z_iload_n C dX12_sizeOf_0 2 rfl ?_
  refine z_iconst C 2 dX12_sizeOf_1 (by decide) ?_
  obtain ⟨y1, hy1, h⟩ := bind_o h
  refine rw_c_X12_391 C (Ct.frame0 (cM_isOf hy1)) dX12_sizeOf_2 (Nat.le_of_ble_eq_true rfl) (zrm rfl) ?_
  refine z_ifb_eq C dX12_sizeOf_5 14 (by decide) h (fun h => ?_) (fun h => ?_)
  · refine z_iload_n C dX12_sizeOf_14 2 rfl ?_
    refine z_iconst C 4 dX12_sizeOf_15 (by decide) ?_
    refine z_icmp_ne C dX12_sizeOf_16 25 (by decide) h (fun h => ?_) (fun h => ?_)
    · exact kM_sizeOf_b25 C O  h
    · refine z_aload_n C dX12_sizeOf_19 0 rfl ?_
      refine z_bipush C 13 dX12_sizeOf_20 (by decide) ?_
      obtain ⟨y11, hy11, h⟩ := bind_o h
      refine rw_c_X12_398 C (cM_began hy11) 0 rfl dX12_sizeOf_22 (Nat.le_of_ble_eq_true rfl) (zrm rfl) ?_
      exact kM_sizeOf_b25 C O  h
  · refine z_aload_n C dX12_sizeOf_8 0 rfl ?_
    refine z_iload_n C dX12_sizeOf_9 1 rfl ?_
    obtain ⟨y12, hy12, h⟩ := bind_o h
    refine rw_c_X12_401 C (cM_commonSize hy12) 0 rfl dX12_sizeOf_10 (Nat.le_of_ble_eq_true rfl) (zrm rfl) ?_
    replace h := Option.some.inj h
    subst h
    exact z_iret C O dX12_sizeOf_13 rfl rfl
set_option maxHeartbeats 4000000 in
set_option maxRecDepth 100000 in
theorem cM_ask {l : Launch} {G : zG} {qM : Nat → Nat} {sM : zSt} {a0 : Int32} {a1 : Int32} {out : Int64 × zSt} (h : fM_ask sM a0 a1 = some out) : Ct l G yX12_ask cX12_ask 3 (some .long) rmX12_ask [.ref (qM 0), .int a0, .int a1] (wdM G qM sM) (some (.long out.1)) (wdM G qM out.2) := by
  refine zMet (own := RX12) rfl (by decide) (Nat.le_of_ble_eq_true rfl) (fun x hl C O => ?_)
  show zW x G 0 0 0 [(0, .ref (qM 0)), (1, .int a0), (2, .int a1)] [] _
  unfold fM_ask at h
  refine z_aload_n C dX12_ask_0 0 rfl ?_
  refine z_iconst C 0 dX12_ask_1 (by decide) ?_
  refine rw_p_X12_107_M_M C dX12_ask_2 h (fun sM1 h => ?_)
  refine z_aload_n C dX12_ask_5 0 rfl ?_
  refine z_iload_n C dX12_ask_6 1 rfl ?_
  obtain ⟨y2, hy2, h⟩ := bind_o h
  refine rw_c_X12_320 C (cM_isThing hy2) 0 rfl dX12_ask_7 (Nat.le_of_ble_eq_true rfl) (zrm rfl) ?_
  refine z_ifb_eq C dX12_ask_10 23 (by decide) h (fun h => ?_) (fun h => ?_)
  · refine z_ldc2 C rw_u_1138 dX12_ask_23 ?_
    replace h := Option.some.inj h
    subst h
    exact z_lret C O dX12_ask_26 rfl rfl
  · refine z_iload_n C dX12_ask_13 2 rfl ?_
    refine z_i2l C dX12_ask_14 ?_
    refine z_lconst C 0 dX12_ask_15 (by decide) ?_
    refine z_lconst C 1 dX12_ask_16 (by decide) ?_
    obtain ⟨y3, hy3, h⟩ := bind_o h
    refine rw_c_X12_118 C (Ct.frame0 (cM_in hy3)) dX12_ask_17 (Nat.le_of_ble_eq_true rfl) (zrm rfl) ?_
    refine z_ifb_ne C dX12_ask_20 27 (by decide) h (fun h => ?_) (fun h => ?_)
    · refine z_aload_n C dX12_ask_27 0 rfl ?_
      refine z_iconst C 0 dX12_ask_28 (by decide) ?_
      refine rw_p_X12_395_M_M C dX12_ask_29 h (fun sM4 h => ?_)
      refine z_aload_n C dX12_ask_32 0 rfl ?_
      obtain ⟨y5, hy5, h⟩ := bind_o h
      refine rw_c_X12_329 C (cM_goAll hy5) 0 rfl dX12_ask_33 (Nat.le_of_ble_eq_true rfl) (zrm rfl) ?_
      refine z_iload_n C dX12_ask_36 2 rfl ?_
      refine z_if_ne C dX12_ask_37 54 (by decide) h (fun h => ?_) (fun h => ?_)
      · refine z_aload_n C dX12_ask_54 0 rfl ?_
        refine z_iload_n C dX12_ask_55 1 rfl ?_
        refine z_aload_n C dX12_ask_56 0 rfl ?_
        refine z_iload_n C dX12_ask_57 1 rfl ?_
        obtain ⟨y6, hy6, h⟩ := bind_o h
        refine rw_c_X12_386 C (cM_kindOf hy6) 0 rfl dX12_ask_58 (Nat.le_of_ble_eq_true rfl) (zrm rfl) ?_
        obtain ⟨y7, hy7, h⟩ := bind_o h
        refine rw_c_X12_404 C (cM_markOf hy7) 0 rfl dX12_ask_61 (Nat.le_of_ble_eq_true rfl) (zrm rfl) ?_
        refine z_i2l C dX12_ask_64 ?_
        replace h := Option.some.inj h
        subst h
        exact z_lret C O dX12_ask_65 rfl rfl
      · refine z_aload_n C dX12_ask_40 0 rfl ?_
        refine z_iload_n C dX12_ask_41 1 rfl ?_
        refine z_aload_n C dX12_ask_42 0 rfl ?_
        refine z_iload_n C dX12_ask_43 1 rfl ?_
        obtain ⟨y8, hy8, h⟩ := bind_o h
        refine rw_c_X12_386 C (cM_kindOf hy8) 0 rfl dX12_ask_44 (Nat.le_of_ble_eq_true rfl) (zrm rfl) ?_
        obtain ⟨y9, hy9, h⟩ := bind_o h
        refine rw_c_X12_407 C (cM_sizeOf hy9) 0 rfl dX12_ask_47 (Nat.le_of_ble_eq_true rfl) (zrm rfl) ?_
        refine z_i2l C dX12_ask_50 ?_
        refine z_goto C dX12_ask_51 65 (by decide) ?_
        replace h := Option.some.inj h
        subst h
        exact z_lret C O dX12_ask_65 rfl rfl
    · refine z_ldc2 C rw_u_1138 dX12_ask_23 ?_
      replace h := Option.some.inj h
      subst h
      exact z_lret C O dX12_ask_26 rfl rfl
set_option maxHeartbeats 4000000 in
set_option maxRecDepth 100000 in
theorem cM_trace {l : Launch} {G : zG} {qM : Nat → Nat} {sM : zSt} {a0 : Int32} {out : Int32 × zSt} (h : fM_trace sM a0 = some out) : Ct l G yX12_trace cX12_trace 2 (some .int) rmX12_trace [.ref (qM 0), .int a0] (wdM G qM sM) (some (.int out.1)) (wdM G qM out.2) := by
  refine zMet (own := RX12) rfl (by decide) (Nat.le_of_ble_eq_true rfl) (fun x hl C O => ?_)
  show zW x G 0 0 0 [(0, .ref (qM 0)), (1, .int a0)] [] _
  unfold fM_trace at h
  refine z_aload_n C dX12_trace_0 0 rfl ?_
  refine z_iconst C 0 dX12_trace_1 (by decide) ?_
  refine rw_p_X12_107_M_M C dX12_trace_2 h (fun sM1 h => ?_)
  refine z_iload_n C dX12_trace_5 1 rfl ?_
  refine z_i2l C dX12_trace_6 ?_
  refine z_lconst C 0 dX12_trace_7 (by decide) ?_
  refine z_aload_n C dX12_trace_8 0 rfl ?_
  refine rw_g_X12_395_M_M C dX12_trace_9 ?_
  refine z_iconst C 1 dX12_trace_12 (by decide) ?_
  refine z_isub C dX12_trace_13 ?_
  refine z_i2l C dX12_trace_14 ?_
  obtain ⟨y2, hy2, h⟩ := bind_o h
  refine rw_c_X12_118 C (Ct.frame0 (cM_in hy2)) dX12_trace_15 (Nat.le_of_ble_eq_true rfl) (zrm rfl) ?_
  refine z_ifb_eq C dX12_trace_18 30 (by decide) h (fun h => ?_) (fun h => ?_)
  · refine z_ldc C rw_u_1175 dX12_trace_30 ?_
    replace h := Option.some.inj h
    subst h
    exact z_iret C O dX12_trace_32 rfl rfl
  · refine z_aload_n C dX12_trace_21 0 rfl ?_
    refine rw_g_X12_104_M_M C dX12_trace_22 ?_
    refine z_iload_n C dX12_trace_25 1 rfl ?_
    refine rw_l_M_M_53 C dX12_trace_26 h (fun h => ?_)
    refine z_goto C dX12_trace_27 32 (by decide) ?_
    replace h := Option.some.inj h
    subst h
    exact z_iret C O dX12_trace_32 rfl rfl
set_option maxHeartbeats 4000000 in
set_option maxRecDepth 100000 in
theorem kM_count_l70b {x : zX} {G : zG} {qM : Nat → Nat}  {out : Int64 × zSt} (C : zC x G RX12 cX12_count 4 (some .long) rmX12_count) (O : zO x G (some (.long out.1)) (wdM G qM out.2) 0 0) {K70 : zSt → Int32 → Int32 → Option (Int64 × zSt)} (hK70 : ∀ (sM : zSt) (x2 : Int32) (x3 : Int32), K70 sM x2 x3 = some out → zW x G 0 0 70 [(0, .ref (qM 0)), (2, .int x2), (3, .int x3)] [] (wdM G qM sM)) {sM : zSt} {x2 : Int32} {x3 : Int32} (h : fM_count_l70b K70 sM x2 x3 = some out) : zW x G 0 0 70 [(0, .ref (qM 0)), (2, .int x2), (3, .int x3)] [] (wdM G qM sM) := by
  unfold fM_count_l70b at h
  refine z_iload_n C dX12_count_70 2 rfl ?_
  refine z_bipush C 8 dX12_count_71 (by decide) ?_
  refine z_icmp_ge C dX12_count_73 99 (by decide) h (fun h => ?_) (fun h => ?_)
  · refine z_iload_n C dX12_count_99 1 rfl ?_
    refine z_i2l C dX12_count_100 ?_
    replace h := Option.some.inj h
    subst h
    exact z_lret C O dX12_count_101 rfl rfl
  · refine z_iload_n C dX12_count_76 1 rfl ?_
    refine z_aload_n C dX12_count_77 0 rfl ?_
    refine rw_g_X12_9_M_M C dX12_count_78 ?_
    refine z_iload_n C dX12_count_81 2 rfl ?_
    refine rw_l_M_M_2 C dX12_count_82 h (fun h => ?_)
    refine z_if_lt C dX12_count_83 90 (by decide) h (fun h => ?_) (fun h => ?_)
    · refine z_iconst C 0 dX12_count_90 (by decide) ?_
      refine z_iadd C dX12_count_91 ?_
      refine z_istore_nN C dX12_count_92 (by decide) (lvr := [(0, .ref (qM 0)), (3, .int x3)]) rfl h (fun x2_4 h => ?_)
      refine z_iinc C dX12_count_93 2 rfl 1 (by decide) (by decide) (lvr := [(2, .int x2_4), (0, .ref (qM 0))]) rfl h (fun x3_5 h => ?_)
      refine z_goto C dX12_count_96 70 (by decide) ?_
      refine z_perm [2, 1, 0] (lv' := [(0, .ref (qM 0)), (2, .int x2_4), (3, .int x3_5)]) rfl ?_
      exact hK70 _  _ _ h
    · refine z_iconst C 1 dX12_count_86 (by decide) ?_
      refine z_goto C dX12_count_87 91 (by decide) ?_
      refine z_iadd C dX12_count_91 ?_
      refine z_istore_nN C dX12_count_92 (by decide) (lvr := [(0, .ref (qM 0)), (3, .int x3)]) rfl h (fun x2_6 h => ?_)
      refine z_iinc C dX12_count_93 2 rfl 1 (by decide) (by decide) (lvr := [(2, .int x2_6), (0, .ref (qM 0))]) rfl h (fun x3_7 h => ?_)
      refine z_goto C dX12_count_96 70 (by decide) ?_
      refine z_perm [2, 1, 0] (lv' := [(0, .ref (qM 0)), (2, .int x2_6), (3, .int x3_7)]) rfl ?_
      exact hK70 _  _ _ h
set_option maxHeartbeats 4000000 in
set_option maxRecDepth 100000 in
theorem kM_count_l70 {x : zX} {G : zG} {qM : Nat → Nat}  {out : Int64 × zSt} (C : zC x G RX12 cX12_count 4 (some .long) rmX12_count) (O : zO x G (some (.long out.1)) (wdM G qM out.2) 0 0)  : ∀ (n : Nat) {sM : zSt} {x2 : Int32} {x3 : Int32}, fM_count_l70  n sM x2 x3 = some out → zW x G 0 0 70 [(0, .ref (qM 0)), (2, .int x2), (3, .int x3)] [] (wdM G qM sM) := by
  intro n
  induction n with
  | zero =>
    intro sM x2 x3 h
    have h : (none : Option (Int64 × zSt)) = some out := h
    cases h
  | succ n ih =>
    intro sM x2 x3 h
    exact kM_count_l70b C O (K70 := fun v0 v1 v2 => fM_count_l70  n v0 v1 v2) (fun sM x2 x3 h => ih h) h
set_option maxHeartbeats 4000000 in
set_option maxRecDepth 100000 in
theorem cM_count {l : Launch} {G : zG} {qM : Nat → Nat} {sM : zSt} {a0 : Int32} {out : Int64 × zSt} (h : fM_count sM a0 = some out) : Ct l G yX12_count cX12_count 4 (some .long) rmX12_count [.ref (qM 0), .int a0] (wdM G qM sM) (some (.long out.1)) (wdM G qM out.2) := by
  refine zMet (own := RX12) rfl (by decide) (Nat.le_of_ble_eq_true rfl) (fun x hl C O => ?_)
  show zW x G 0 0 0 [(0, .ref (qM 0)), (1, .int a0)] [] _
  unfold fM_count at h
  refine z_aload_n C dX12_count_0 0 rfl ?_
  refine z_iconst C 0 dX12_count_1 (by decide) ?_
  refine rw_p_X12_107_M_M C dX12_count_2 h (fun sM1 h => ?_)
  refine z_iconst C 0 dX12_count_5 (by decide) ?_
  refine z_istore_n C dX12_count_6 (by decide) (lvr := [(0, .ref (qM 0)), (1, .int a0)]) rfl ?_
  refine z_iload_n C dX12_count_7 2 rfl ?_
  refine z_i2l C dX12_count_8 ?_
  refine z_lconst C 0 dX12_count_9 (by decide) ?_
  refine z_ldc2 C rw_u_1292 dX12_count_10 ?_
  obtain ⟨y2, hy2, h⟩ := bind_o h
  refine rw_c_X12_118 C (Ct.frame0 (cM_in hy2)) dX12_count_13 (Nat.le_of_ble_eq_true rfl) (zrm rfl) ?_
  refine z_ifb_ne C dX12_count_16 23 (by decide) h (fun h => ?_) (fun h => ?_)
  · refine z_aload_n C dX12_count_23 1 rfl ?_
    obtain ⟨y3, hy3, h⟩ := bind_o h
    refine rw_c_X12_329 C (cM_goAll hy3) 0 rfl dX12_count_24 (Nat.le_of_ble_eq_true rfl) (zrm rfl) ?_
    refine z_iload_n C dX12_count_27 2 rfl ?_
    by_cases hc0 : a0 = 0
    · refine z_tcase (off := 40) C dX12_count_28 0 hc0 (by decide) (by decide) (by decide) 68 (by decide) ?_
      replace h := zite_t h hc0
      refine z_iconst C 0 dX12_count_68 (by decide) ?_
      refine z_istore_n C dX12_count_69 (by decide) (lvr := [(2, .int 0), (0, .ref (qM 0)), (1, .int a0)]) rfl ?_
      refine z_perm [2, 1, 0] (lv' := [(0, .ref (qM 0)), (2, .int 0), (3, .int 0)]) rfl ?_
      exact kM_count_l70 C O  zF h
    · replace h := zite_f h hc0
      by_cases hc1 : a0 = 1
      · refine z_tcase (off := 74) C dX12_count_28 1 hc1 (by decide) (by decide) (by decide) 102 (by decide) ?_
        replace h := zite_t h hc1
        refine z_aload_n C dX12_count_102 1 rfl ?_
        refine rw_g_X12_279_M_M C dX12_count_103 ?_
        refine z_i2l C dX12_count_106 ?_
        replace h := Option.some.inj h
        subst h
        exact z_lret C O dX12_count_107 rfl rfl
      · replace h := zite_f h hc1
        by_cases hc2 : a0 = 2
        · refine z_tcase (off := 80) C dX12_count_28 2 hc2 (by decide) (by decide) (by decide) 108 (by decide) ?_
          replace h := zite_t h hc2
          refine z_aload_n C dX12_count_108 1 rfl ?_
          refine rw_g_X12_282_M_M C dX12_count_109 ?_
          refine z_i2l C dX12_count_112 ?_
          replace h := Option.some.inj h
          subst h
          exact z_lret C O dX12_count_113 rfl rfl
        · replace h := zite_f h hc2
          by_cases hc3 : a0 = 3
          · refine z_tcase (off := 86) C dX12_count_28 3 hc3 (by decide) (by decide) (by decide) 114 (by decide) ?_
            replace h := zite_t h hc3
            refine z_aload_n C dX12_count_114 1 rfl ?_
            refine rw_g_X12_285_M_M C dX12_count_115 ?_
            refine z_i2l C dX12_count_118 ?_
            replace h := Option.some.inj h
            subst h
            exact z_lret C O dX12_count_119 rfl rfl
          · replace h := zite_f h hc3
            by_cases hc4 : a0 = 4
            · refine z_tcase (off := 92) C dX12_count_28 4 hc4 (by decide) (by decide) (by decide) 120 (by decide) ?_
              replace h := zite_t h hc4
              refine z_aload_n C dX12_count_120 1 rfl ?_
              refine rw_g_X12_294_M_M C dX12_count_121 ?_
              refine z_i2l C dX12_count_124 ?_
              replace h := Option.some.inj h
              subst h
              exact z_lret C O dX12_count_125 rfl rfl
            · replace h := zite_f h hc4
              by_cases hc5 : a0 = 5
              · refine z_tcase (off := 98) C dX12_count_28 5 hc5 (by decide) (by decide) (by decide) 126 (by decide) ?_
                replace h := zite_t h hc5
                refine z_aload_n C dX12_count_126 1 rfl ?_
                refine rw_g_X12_136_M_M C dX12_count_127 ?_
                refine z_i2l C dX12_count_130 ?_
                replace h := Option.some.inj h
                subst h
                exact z_lret C O dX12_count_131 rfl rfl
              · replace h := zite_f h hc5
                refine z_tout C dX12_count_28 (ztoutL 6 (by decide) (by intro k hk; match k, hk with | 0, _ => exact hc0 | 1, _ => exact hc1 | 2, _ => exact hc2 | 3, _ => exact hc3 | 4, _ => exact hc4 | 5, _ => exact hc5 | k + 6, hk => exact absurd hk (by omega))) 132 (by decide) ?_
                refine z_aload_n C dX12_count_132 1 rfl ?_
                refine rw_g_X12_275_M_M C dX12_count_133 ?_
                refine z_if_eq C dX12_count_136 147 (by decide) h (fun h => ?_) (fun h => ?_)
                · refine z_ldc2 C rw_u_1287 dX12_count_147 ?_
                  replace h := Option.some.inj h
                  subst h
                  exact z_lret C O dX12_count_150 rfl rfl
                · refine z_aload_n C dX12_count_139 1 rfl ?_
                  refine rw_g_X12_288_M_M C dX12_count_140 ?_
                  refine z_i2l C dX12_count_143 ?_
                  refine z_goto C dX12_count_144 150 (by decide) ?_
                  replace h := Option.some.inj h
                  subst h
                  exact z_lret C O dX12_count_150 rfl rfl
  · refine z_ldc2 C rw_u_1138 dX12_count_19 ?_
    replace h := Option.some.inj h
    subst h
    exact z_lret C O dX12_count_22 rfl rfl
set_option maxHeartbeats 4000000 in
set_option maxRecDepth 100000 in
theorem cM_status {l : Launch} {G : zG} {qM : Nat → Nat} {sM : zSt}  {out : Int32 × zSt} (h : fM_status sM  = some out) : Ct l G yX12_status cX12_status 1 (some .int) rmX12_status [.ref (qM 0)] (wdM G qM sM) (some (.int out.1)) (wdM G qM out.2) := by
  refine zMet (own := RX12) rfl (by decide) (Nat.le_of_ble_eq_true rfl) (fun x hl C O => ?_)
  show zW x G 0 0 0 [(0, .ref (qM 0))] [] _
  unfold fM_status at h
  refine z_aload_n C dX12_status_0 0 rfl ?_
  refine z_iconst C 0 dX12_status_1 (by decide) ?_
  refine rw_p_X12_107_M_M C dX12_status_2 h (fun sM1 h => ?_)
  refine z_aload_n C dX12_status_5 0 rfl ?_
  refine rw_g_X12_111_M_M C dX12_status_6 ?_
  replace h := Option.some.inj h
  subst h
  exact z_iret C O dX12_status_9 rfl rfl
