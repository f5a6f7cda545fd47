/-! one list of words for all methods: a chain, each word known to lie in it -/
def wB1332 : List Cond := []
def wB1331 : List Cond := Cond.selects RX7 yX7_textLength yX7_textLength :: wB1332
def wB1330 : List Cond := Cond.instanceMethod yX7_textLength :: wB1331
def wB1329 : List Cond := Cond.methodLink RL 292 yX7_textLength :: wB1330
def wB1328 : List Cond := Cond.selects RX6 yX6_textLength yX6_textLength :: wB1329
def wB1327 : List Cond := Cond.instanceMethod yX6_textLength :: wB1328
def wB1326 : List Cond := Cond.methodLink RL 289 yX6_textLength :: wB1327
def wB1325 : List Cond := Cond.selects RX7 yX7_savedStates yX7_savedStates :: wB1326
def wB1324 : List Cond := Cond.instanceMethod yX7_savedStates :: wB1325
def wB1323 : List Cond := Cond.methodLink RL 288 yX7_savedStates :: wB1324
def wB1322 : List Cond := Cond.selects RX6 yX6_savedStates yX6_savedStates :: wB1323
def wB1321 : List Cond := Cond.instanceMethod yX6_savedStates :: wB1322
def wB1320 : List Cond := Cond.methodLink RL 285 yX6_savedStates :: wB1321
def wB1319 : List Cond := Cond.selects RX7 yX7_inversions yX7_inversions :: wB1320
def wB1318 : List Cond := Cond.instanceMethod yX7_inversions :: wB1319
def wB1317 : List Cond := Cond.methodLink RL 284 yX7_inversions :: wB1318
def wB1316 : List Cond := Cond.selects RX6 yX6_inversions yX6_inversions :: wB1317
def wB1315 : List Cond := Cond.instanceMethod yX6_inversions :: wB1316
def wB1314 : List Cond := Cond.methodLink RL 281 yX6_inversions :: wB1315
def wB1313 : List Cond := Cond.selects RX7 yX7_unsoundUses yX7_unsoundUses :: wB1314
def wB1312 : List Cond := Cond.instanceMethod yX7_unsoundUses :: wB1313
def wB1311 : List Cond := Cond.methodLink RL 280 yX7_unsoundUses :: wB1312
def wB1310 : List Cond := Cond.selects RX6 yX6_unsoundUses yX6_unsoundUses :: wB1311
def wB1309 : List Cond := Cond.instanceMethod yX6_unsoundUses :: wB1310
def wB1308 : List Cond := Cond.methodLink RL 277 yX6_unsoundUses :: wB1309
def wB1307 : List Cond := Cond.selects RX7 yX7_totalWait yX7_totalWait :: wB1308
def wB1306 : List Cond := Cond.instanceMethod yX7_totalWait :: wB1307
def wB1305 : List Cond := Cond.methodLink RL 276 yX7_totalWait :: wB1306
def wB1304 : List Cond := Cond.selects RX6 yX6_totalWait yX6_totalWait :: wB1305
def wB1303 : List Cond := Cond.instanceMethod yX6_totalWait :: wB1304
def wB1302 : List Cond := Cond.methodLink RL 273 yX6_totalWait :: wB1303
def wB1301 : List Cond := Cond.selects RX7 yX7_countInState yX7_countInState :: wB1302
def wB1300 : List Cond := Cond.instanceMethod yX7_countInState :: wB1301
def wB1299 : List Cond := Cond.methodLink RL 272 yX7_countInState :: wB1300
def wB1298 : List Cond := Cond.static yL_countInState :: wB1299
def wB1297 : List Cond := Cond.methodLink RL 270 yL_countInState :: wB1298
def wB1296 : List Cond := Cond.selects RX7 yX7_ticksUntilSafe yX7_ticksUntilSafe :: wB1297
def wB1295 : List Cond := Cond.instanceMethod yX7_ticksUntilSafe :: wB1296
def wB1294 : List Cond := Cond.methodLink RL 269 yX7_ticksUntilSafe :: wB1295
def wB1293 : List Cond := Cond.static yL_ticksUntilSafe :: wB1294
def wB1292 : List Cond := Cond.methodLink RL 267 yL_ticksUntilSafe :: wB1293
def wB1291 : List Cond := Cond.selects RX7 yX7_readFloor yX7_readFloor :: wB1292
def wB1290 : List Cond := Cond.instanceMethod yX7_readFloor :: wB1291
def wB1289 : List Cond := Cond.methodLink RL 266 yX7_readFloor :: wB1290
def wB1288 : List Cond := Cond.selects RX6 yX6_readFloor yX6_readFloor :: wB1289
def wB1287 : List Cond := Cond.instanceMethod yX6_readFloor :: wB1288
def wB1286 : List Cond := Cond.methodLink RL 263 yX6_readFloor :: wB1287
def wB1285 : List Cond := Cond.selects RX7 yX7_safeTime yX7_safeTime :: wB1286
def wB1284 : List Cond := Cond.instanceMethod yX7_safeTime :: wB1285
def wB1283 : List Cond := Cond.methodLink RL 262 yX7_safeTime :: wB1284
def wB1282 : List Cond := Cond.selects RX6 yX6_safeTime yX6_safeTime :: wB1283
def wB1281 : List Cond := Cond.instanceMethod yX6_safeTime :: wB1282
def wB1280 : List Cond := Cond.methodLink RL 259 yX6_safeTime :: wB1281
def wB1279 : List Cond := Cond.selects RX7 yX7_readerMark yX7_readerMark :: wB1280
def wB1278 : List Cond := Cond.instanceMethod yX7_readerMark :: wB1279
def wB1277 : List Cond := Cond.methodLink RL 258 yX7_readerMark :: wB1278
def wB1276 : List Cond := Cond.static yL_readerMark :: wB1277
def wB1275 : List Cond := Cond.methodLink RL 256 yL_readerMark :: wB1276
def wB1274 : List Cond := Cond.selects RX7 yX7_waitingWriter yX7_waitingWriter :: wB1275
def wB1273 : List Cond := Cond.instanceMethod yX7_waitingWriter :: wB1274
def wB1272 : List Cond := Cond.methodLink RL 255 yX7_waitingWriter :: wB1273
def wB1271 : List Cond := Cond.static yL_waitingWriter :: wB1272
def wB1270 : List Cond := Cond.methodLink RL 253 yL_waitingWriter :: wB1271
def wB1269 : List Cond := Cond.selects RX7 yX7_replayedValueAt yX7_replayedValueAt :: wB1270
def wB1268 : List Cond := Cond.instanceMethod yX7_replayedValueAt :: wB1269
def wB1267 : List Cond := Cond.methodLink RL 252 yX7_replayedValueAt :: wB1268
def wB1266 : List Cond := Cond.static yL_replayedValueAt :: wB1267
def wB1265 : List Cond := Cond.methodLink RL 250 yL_replayedValueAt :: wB1266
def wB1264 : List Cond := Cond.selects RX7 yX7_valueAt yX7_valueAt :: wB1265
def wB1263 : List Cond := Cond.instanceMethod yX7_valueAt :: wB1264
def wB1262 : List Cond := Cond.methodLink RL 249 yX7_valueAt :: wB1263
def wB1261 : List Cond := Cond.static yL_valueAt :: wB1262
def wB1260 : List Cond := Cond.methodLink RL 247 yL_valueAt :: wB1261
def wB1259 : List Cond := Cond.selects RX7 yX7_versionTimestamp yX7_versionTimestamp :: wB1260
def wB1258 : List Cond := Cond.instanceMethod yX7_versionTimestamp :: wB1259
def wB1257 : List Cond := Cond.methodLink RL 246 yX7_versionTimestamp :: wB1258
def wB1256 : List Cond := Cond.static yL_versionTimestamp :: wB1257
def wB1255 : List Cond := Cond.methodLink RL 244 yL_versionTimestamp :: wB1256
def wB1254 : List Cond := Cond.selects RX7 yX7_versions yX7_versions :: wB1255
def wB1253 : List Cond := Cond.instanceMethod yX7_versions :: wB1254
def wB1252 : List Cond := Cond.methodLink RL 243 yX7_versions :: wB1253
def wB1251 : List Cond := Cond.static yL_versions :: wB1252
def wB1250 : List Cond := Cond.methodLink RL 241 yL_versions :: wB1251
def wB1249 : List Cond := Cond.selects RX7 yX7_ticksToCommit yX7_ticksToCommit :: wB1250
def wB1248 : List Cond := Cond.instanceMethod yX7_ticksToCommit :: wB1249
def wB1247 : List Cond := Cond.methodLink RL 240 yX7_ticksToCommit :: wB1248
def wB1246 : List Cond := Cond.static yL_ticksToCommit :: wB1247
def wB1245 : List Cond := Cond.methodLink RL 238 yL_ticksToCommit :: wB1246
def wB1244 : List Cond := Cond.selects RX7 yX7_ifCommitted yX7_ifCommitted :: wB1245
def wB1243 : List Cond := Cond.instanceMethod yX7_ifCommitted :: wB1244
def wB1242 : List Cond := Cond.methodLink RL 237 yX7_ifCommitted :: wB1243
def wB1241 : List Cond := Cond.static yL_ifCommitted :: wB1242
def wB1240 : List Cond := Cond.methodLink RL 235 yL_ifCommitted :: wB1241
def wB1239 : List Cond := Cond.selects RX7 yX7_recordedTimestamp yX7_recordedTimestamp :: wB1240
def wB1238 : List Cond := Cond.instanceMethod yX7_recordedTimestamp :: wB1239
def wB1237 : List Cond := Cond.methodLink RL 234 yX7_recordedTimestamp :: wB1238
def wB1236 : List Cond := Cond.static yL_recordedTimestamp :: wB1237
def wB1235 : List Cond := Cond.methodLink RL 232 yL_recordedTimestamp :: wB1236
def wB1234 : List Cond := Cond.selects RX7 yX7_bufferedValue yX7_bufferedValue :: wB1235
def wB1233 : List Cond := Cond.instanceMethod yX7_bufferedValue :: wB1234
def wB1232 : List Cond := Cond.methodLink RL 231 yX7_bufferedValue :: wB1233
def wB1231 : List Cond := Cond.static yL_bufferedValue :: wB1232
def wB1230 : List Cond := Cond.methodLink RL 229 yL_bufferedValue :: wB1231
def wB1229 : List Cond := Cond.selects RX7 yX7_commitTime yX7_commitTime :: wB1230
def wB1228 : List Cond := Cond.instanceMethod yX7_commitTime :: wB1229
def wB1227 : List Cond := Cond.methodLink RL 228 yX7_commitTime :: wB1228
def wB1226 : List Cond := Cond.static yL_commitTime :: wB1227
def wB1225 : List Cond := Cond.methodLink RL 226 yL_commitTime :: wB1226
def wB1224 : List Cond := Cond.selects RX7 yX7_requestTime yX7_requestTime :: wB1225
def wB1223 : List Cond := Cond.instanceMethod yX7_requestTime :: wB1224
def wB1222 : List Cond := Cond.methodLink RL 225 yX7_requestTime :: wB1223
def wB1221 : List Cond := Cond.static yL_requestTime :: wB1222
def wB1220 : List Cond := Cond.methodLink RL 223 yL_requestTime :: wB1221
def wB1219 : List Cond := Cond.selects RX7 yX7_timestamp yX7_timestamp :: wB1220
def wB1218 : List Cond := Cond.instanceMethod yX7_timestamp :: wB1219
def wB1217 : List Cond := Cond.methodLink RL 222 yX7_timestamp :: wB1218
def wB1216 : List Cond := Cond.static yL_timestamp :: wB1217
def wB1215 : List Cond := Cond.methodLink RL 220 yL_timestamp :: wB1216
def wB1214 : List Cond := Cond.selects RX7 yX7_state yX7_state :: wB1215
def wB1213 : List Cond := Cond.instanceMethod yX7_state :: wB1214
def wB1212 : List Cond := Cond.methodLink RL 219 yX7_state :: wB1213
def wB1211 : List Cond := Cond.static yL_state :: wB1212
def wB1210 : List Cond := Cond.methodLink RL 217 yL_state :: wB1211
def wB1209 : List Cond := Cond.selects RX7 yX7_transactions yX7_transactions :: wB1210
def wB1208 : List Cond := Cond.instanceMethod yX7_transactions :: wB1209
def wB1207 : List Cond := Cond.methodLink RL 216 yX7_transactions :: wB1208
def wB1206 : List Cond := Cond.selects RX6 yX6_transactions yX6_transactions :: wB1207
def wB1205 : List Cond := Cond.instanceMethod yX6_transactions :: wB1206
def wB1204 : List Cond := Cond.methodLink RL 213 yX6_transactions :: wB1205
def wB1203 : List Cond := Cond.selects RX7 yX7_nextTimestamp yX7_nextTimestamp :: wB1204
def wB1202 : List Cond := Cond.instanceMethod yX7_nextTimestamp :: wB1203
def wB1201 : List Cond := Cond.methodLink RL 212 yX7_nextTimestamp :: wB1202
def wB1200 : List Cond := Cond.static yL_nextTimestamp :: wB1201
def wB1199 : List Cond := Cond.methodLink RL 210 yL_nextTimestamp :: wB1200
def wB1198 : List Cond := Cond.selects RX7 yX7_isSound yX7_isSound :: wB1199
def wB1197 : List Cond := Cond.instanceMethod yX7_isSound :: wB1198
def wB1196 : List Cond := Cond.methodLink RL 209 yX7_isSound :: wB1197
def wB1195 : List Cond := Cond.static yL_isSound :: wB1196
def wB1194 : List Cond := Cond.methodLink RL 207 yL_isSound :: wB1195
def wB1193 : List Cond := Cond.selects RX7 yX7_latest yX7_latest :: wB1194
def wB1192 : List Cond := Cond.instanceMethod yX7_latest :: wB1193
def wB1191 : List Cond := Cond.methodLink RL 206 yX7_latest :: wB1192
def wB1190 : List Cond := Cond.static yL_latest :: wB1191
def wB1189 : List Cond := Cond.methodLink RL 204 yL_latest :: wB1190
def wB1188 : List Cond := Cond.selects RX7 yX7_earliest yX7_earliest :: wB1189
def wB1187 : List Cond := Cond.instanceMethod yX7_earliest :: wB1188
def wB1186 : List Cond := Cond.methodLink RL 203 yX7_earliest :: wB1187
def wB1185 : List Cond := Cond.static yL_earliest :: wB1186
def wB1184 : List Cond := Cond.methodLink RL 201 yL_earliest :: wB1185
def wB1183 : List Cond := Cond.selects RX7 yX7_reading yX7_reading :: wB1184
def wB1182 : List Cond := Cond.instanceMethod yX7_reading :: wB1183
def wB1181 : List Cond := Cond.methodLink RL 200 yX7_reading :: wB1182
def wB1180 : List Cond := Cond.static yL_reading :: wB1181
def wB1179 : List Cond := Cond.methodLink RL 198 yL_reading :: wB1180
def wB1178 : List Cond := Cond.selects RX7 yX7_trueTime yX7_trueTime :: wB1179
def wB1177 : List Cond := Cond.instanceMethod yX7_trueTime :: wB1178
def wB1176 : List Cond := Cond.methodLink RL 197 yX7_trueTime :: wB1177
def wB1175 : List Cond := Cond.selects RX6 yX6_trueTime yX6_trueTime :: wB1176
def wB1174 : List Cond := Cond.instanceMethod yX6_trueTime :: wB1175
def wB1173 : List Cond := Cond.methodLink RL 194 yX6_trueTime :: wB1174
def wB1172 : List Cond := Cond.selects RX7 yX7_restore yX7_restore :: wB1173
def wB1171 : List Cond := Cond.instanceMethod yX7_restore :: wB1172
def wB1170 : List Cond := Cond.methodLink RL 193 yX7_restore :: wB1171
def wB1169 : List Cond := Cond.static yL_restore :: wB1170
def wB1168 : List Cond := Cond.methodLink RL 191 yL_restore :: wB1169
def wB1167 : List Cond := Cond.selects RX7 yX7_save yX7_save :: wB1168
def wB1166 : List Cond := Cond.instanceMethod yX7_save :: wB1167
def wB1165 : List Cond := Cond.methodLink RL 190 yX7_save :: wB1166
def wB1164 : List Cond := Cond.static yL_save :: wB1165
def wB1163 : List Cond := Cond.methodLink RL 188 yL_save :: wB1164
def wB1162 : List Cond := Cond.selects RX7 yX7_undo yX7_undo :: wB1163
def wB1161 : List Cond := Cond.instanceMethod yX7_undo :: wB1162
def wB1160 : List Cond := Cond.methodLink RL 187 yX7_undo :: wB1161
def wB1159 : List Cond := Cond.static yL_undo :: wB1160
def wB1158 : List Cond := Cond.methodLink RL 185 yL_undo :: wB1159
def wB1157 : List Cond := Cond.selects RX7 yX7_runText yX7_runText :: wB1158
def wB1156 : List Cond := Cond.instanceMethod yX7_runText :: wB1157
def wB1155 : List Cond := Cond.methodLink RL 184 yX7_runText :: wB1156
def wB1154 : List Cond := Cond.static yL_runText :: wB1155
def wB1153 : List Cond := Cond.methodLink RL 181 yL_runText :: wB1154
def wB1152 : List Cond := Cond.selects RX7 yX7_errorPosition yX7_errorPosition :: wB1153
def wB1151 : List Cond := Cond.instanceMethod yX7_errorPosition :: wB1152
def wB1150 : List Cond := Cond.methodLink RL 180 yX7_errorPosition :: wB1151
def wB1149 : List Cond := Cond.selects RX6 yX6_errorPosition yX6_errorPosition :: wB1150
def wB1148 : List Cond := Cond.instanceMethod yX6_errorPosition :: wB1149
def wB1147 : List Cond := Cond.methodLink RL 177 yX6_errorPosition :: wB1148
def wB1146 : List Cond := Cond.selects RX7 yX7_clearText yX7_clearText :: wB1147
def wB1145 : List Cond := Cond.instanceMethod yX7_clearText :: wB1146
def wB1144 : List Cond := Cond.methodLink RL 176 yX7_clearText :: wB1145
def wB1143 : List Cond := Cond.selects RX6 yX6_clearText yX6_clearText :: wB1144
def wB1142 : List Cond := Cond.instanceMethod yX6_clearText :: wB1143
def wB1141 : List Cond := Cond.methodLink RL 173 yX6_clearText :: wB1142
def wB1140 : List Cond := Cond.selects RX7 yX7_appendText yX7_appendText :: wB1141
def wB1139 : List Cond := Cond.instanceMethod yX7_appendText :: wB1140
def wB1138 : List Cond := Cond.methodLink RL 172 yX7_appendText :: wB1139
def wB1137 : List Cond := Cond.static yL_appendText :: wB1138
def wB1136 : List Cond := Cond.methodLink RL 170 yL_appendText :: wB1137
def wB1135 : List Cond := Cond.selects RX7 yX7_snapshotRead yX7_snapshotRead :: wB1136
def wB1134 : List Cond := Cond.instanceMethod yX7_snapshotRead :: wB1135
def wB1133 : List Cond := Cond.methodLink RL 169 yX7_snapshotRead :: wB1134
def wB1132 : List Cond := Cond.static yL_snapshotRead :: wB1133
def wB1131 : List Cond := Cond.methodLink RL 167 yL_snapshotRead :: wB1132
def wB1130 : List Cond := Cond.selects RX7 yX7_setUncertainty yX7_setUncertainty :: wB1131
def wB1129 : List Cond := Cond.instanceMethod yX7_setUncertainty :: wB1130
def wB1128 : List Cond := Cond.methodLink RL 166 yX7_setUncertainty :: wB1129
def wB1127 : List Cond := Cond.static yL_setUncertainty :: wB1128
def wB1126 : List Cond := Cond.methodLink RL 164 yL_setUncertainty :: wB1127
def wB1125 : List Cond := Cond.selects RX7 yX7_setDrift yX7_setDrift :: wB1126
def wB1124 : List Cond := Cond.instanceMethod yX7_setDrift :: wB1125
def wB1123 : List Cond := Cond.methodLink RL 163 yX7_setDrift :: wB1124
def wB1122 : List Cond := Cond.static yL_setDrift :: wB1123
def wB1121 : List Cond := Cond.methodLink RL 161 yL_setDrift :: wB1122
def wB1120 : List Cond := Cond.selects RX7 yX7_synchronize yX7_synchronize :: wB1121
def wB1119 : List Cond := Cond.instanceMethod yX7_synchronize :: wB1120
def wB1118 : List Cond := Cond.methodLink RL 160 yX7_synchronize :: wB1119
def wB1117 : List Cond := Cond.static yL_synchronize :: wB1118
def wB1116 : List Cond := Cond.methodLink RL 158 yL_synchronize :: wB1117
def wB1115 : List Cond := Cond.selects RX7 yX7_advance yX7_advance :: wB1116
def wB1114 : List Cond := Cond.instanceMethod yX7_advance :: wB1115
def wB1113 : List Cond := Cond.methodLink RL 157 yX7_advance :: wB1114
def wB1112 : List Cond := Cond.static yL_advance :: wB1113
def wB1111 : List Cond := Cond.methodLink RL 155 yL_advance :: wB1112
def wB1110 : List Cond := Cond.selects RX7 yX7_abort yX7_abort :: wB1111
def wB1109 : List Cond := Cond.instanceMethod yX7_abort :: wB1110
def wB1108 : List Cond := Cond.methodLink RL 154 yX7_abort :: wB1109
def wB1107 : List Cond := Cond.static yL_abort :: wB1108
def wB1106 : List Cond := Cond.methodLink RL 152 yL_abort :: wB1107
def wB1105 : List Cond := Cond.selects RX7 yX7_commit yX7_commit :: wB1106
def wB1104 : List Cond := Cond.instanceMethod yX7_commit :: wB1105
def wB1103 : List Cond := Cond.methodLink RL 151 yX7_commit :: wB1104
def wB1102 : List Cond := Cond.static yL_commit :: wB1103
def wB1101 : List Cond := Cond.methodLink RL 149 yL_commit :: wB1102
def wB1100 : List Cond := Cond.selects RX7 yX7_write yX7_write :: wB1101
def wB1099 : List Cond := Cond.instanceMethod yX7_write :: wB1100
def wB1098 : List Cond := Cond.methodLink RL 148 yX7_write :: wB1099
def wB1097 : List Cond := Cond.static yL_write :: wB1098
def wB1096 : List Cond := Cond.methodLink RL 145 yL_write :: wB1097
def wB1095 : List Cond := Cond.selects RX7 yX7_read yX7_read :: wB1096
def wB1094 : List Cond := Cond.instanceMethod yX7_read :: wB1095
def wB1093 : List Cond := Cond.methodLink RL 144 yX7_read :: wB1094
def wB1092 : List Cond := Cond.static yL_read :: wB1093
def wB1091 : List Cond := Cond.methodLink RL 141 yL_read :: wB1092
def wB1090 : List Cond := Cond.selects RX7 yX7_thrown yX7_thrown :: wB1091
def wB1089 : List Cond := Cond.instanceMethod yX7_thrown :: wB1090
def wB1088 : List Cond := Cond.methodLink RL 138 yX7_thrown :: wB1089
def wB1087 : List Cond := Cond.selects RX7 yX7_begin yX7_begin :: wB1088
def wB1086 : List Cond := Cond.instanceMethod yX7_begin :: wB1087
def wB1085 : List Cond := Cond.methodLink RL 137 yX7_begin :: wB1086
def wB1084 : List Cond := Cond.initialized RL :: wB1085
def wB1083 : List Cond := Cond.static yL_begin :: wB1084
def wB1082 : List Cond := Cond.methodLink RL 132 yL_begin :: wB1083
def wB1081 : List Cond := Cond.instanceMethod yX7_init :: wB1082
def wB1080 : List Cond := Cond.methodLink RL 131 yX7_init :: wB1081
def wB1079 : List Cond := Cond.instanceMethod yX6_init :: wB1080
def wB1078 : List Cond := Cond.methodLink RL 128 yX6_init :: wB1079
def wB1077 : List Cond := Cond.arrayClass .long :: wB1078
def wB1076 : List Cond := Cond.instantiable RX7 8 :: wB1077
def wB1075 : List Cond := Cond.classLink RL 129 RX7 :: wB1076
def wB1074 : List Cond := Cond.instantiable RX6 5 :: wB1075
def wB1073 : List Cond := Cond.classLink RL 8 RX6 :: wB1074
def wB1072 : List Cond := Cond.selects RX6 yX6_countInState yX6_countInState :: wB1073
def wB1071 : List Cond := Cond.instanceMethod yX6_countInState :: wB1072
def wB1070 : List Cond := Cond.methodLink RL 125 yX6_countInState :: wB1071
def wB1069 : List Cond := Cond.codeWith yL_countInState cL_countInState 4 (some .int) [(0, 9, 12, 25)] :: wB1070
def wB1068 : List Cond := Cond.codeWith yL_ticksUntilSafe cL_ticksUntilSafe 4 (some .int) [(0, 9, 12, 25)] :: wB1069
def wB1067 : List Cond := Cond.selects RX6 yX6_ticksUntilSafe yX6_ticksUntilSafe :: wB1068
def wB1066 : List Cond := Cond.instanceMethod yX6_ticksUntilSafe :: wB1067
def wB1065 : List Cond := Cond.methodLink RL 122 yX6_ticksUntilSafe :: wB1066
def wB1064 : List Cond := Cond.codeWith yL_readerMark cL_readerMark 4 (some .int) [(0, 9, 12, 13)] :: wB1065
def wB1063 : List Cond := Cond.selects RX6 yX6_readerMark yX6_readerMark :: wB1064
def wB1062 : List Cond := Cond.instanceMethod yX6_readerMark :: wB1063
def wB1061 : List Cond := Cond.methodLink RL 119 yX6_readerMark :: wB1062
def wB1060 : List Cond := Cond.codeWith yL_waitingWriter cL_waitingWriter 4 (some .int) [(0, 9, 12, 13)] :: wB1061
def wB1059 : List Cond := Cond.selects RX6 yX6_waitingWriter yX6_waitingWriter :: wB1060
def wB1058 : List Cond := Cond.instanceMethod yX6_waitingWriter :: wB1059
def wB1057 : List Cond := Cond.methodLink RL 116 yX6_waitingWriter :: wB1058
def wB1056 : List Cond := Cond.codeWith yL_replayedValueAt cL_replayedValueAt 5 (some .int) [(0, 10, 13, 13), (0, 10, 17, 25)] :: wB1057
def wB1055 : List Cond := Cond.selects RX6 yX6_replayedValueAt yX6_replayedValueAt :: wB1056
def wB1054 : List Cond := Cond.instanceMethod yX6_replayedValueAt :: wB1055
def wB1053 : List Cond := Cond.methodLink RL 113 yX6_replayedValueAt :: wB1054
def wB1052 : List Cond := Cond.codeWith yL_valueAt cL_valueAt 5 (some .int) [(0, 10, 13, 13), (0, 10, 17, 25)] :: wB1053
def wB1051 : List Cond := Cond.selects RX6 yX6_valueAt yX6_valueAt :: wB1052
def wB1050 : List Cond := Cond.instanceMethod yX6_valueAt :: wB1051
def wB1049 : List Cond := Cond.methodLink RL 110 yX6_valueAt :: wB1050
def wB1048 : List Cond := Cond.selects RX6 yX6_versionTimestamp yX6_versionTimestamp :: wB1049
def wB1047 : List Cond := Cond.instanceMethod yX6_versionTimestamp :: wB1048
def wB1046 : List Cond := Cond.methodLink RL 107 yX6_versionTimestamp :: wB1047
def wB1045 : List Cond := Cond.codeWith yL_versionTimestamp cL_versionTimestamp 5 (some .int) [(0, 10, 13, 13)] :: wB1046
def wB1044 : List Cond := Cond.selects RX6 yX6_versions yX6_versions :: wB1045
def wB1043 : List Cond := Cond.instanceMethod yX6_versions :: wB1044
def wB1042 : List Cond := Cond.methodLink RL 104 yX6_versions :: wB1043
def wB1041 : List Cond := Cond.codeWith yL_versions cL_versions 4 (some .int) [(0, 9, 12, 13)] :: wB1042
def wB1040 : List Cond := Cond.codeWith yL_ticksToCommit cL_ticksToCommit 4 (some .int) [(0, 9, 12, 13)] :: wB1041
def wB1039 : List Cond := Cond.selects RX6 yX6_ticksToCommit yX6_ticksToCommit :: wB1040
def wB1038 : List Cond := Cond.instanceMethod yX6_ticksToCommit :: wB1039
def wB1037 : List Cond := Cond.methodLink RL 101 yX6_ticksToCommit :: wB1038
def wB1036 : List Cond := Cond.codeWith yL_ifCommitted cL_ifCommitted 4 (some .int) [(0, 9, 12, 13)] :: wB1037
def wB1035 : List Cond := Cond.selects RX6 yX6_ifCommitted yX6_ifCommitted :: wB1036
def wB1034 : List Cond := Cond.instanceMethod yX6_ifCommitted :: wB1035
def wB1033 : List Cond := Cond.methodLink RL 98 yX6_ifCommitted :: wB1034
def wB1032 : List Cond := Cond.codeWith yL_recordedTimestamp cL_recordedTimestamp 5 (some .int) [(0, 10, 13, 13)] :: wB1033
def wB1031 : List Cond := Cond.selects RX6 yX6_recordedTimestamp yX6_recordedTimestamp :: wB1032
def wB1030 : List Cond := Cond.instanceMethod yX6_recordedTimestamp :: wB1031
def wB1029 : List Cond := Cond.methodLink RL 95 yX6_recordedTimestamp :: wB1030
def wB1028 : List Cond := Cond.codeWith yL_bufferedValue cL_bufferedValue 5 (some .int) [(0, 10, 13, 13)] :: wB1029
def wB1027 : List Cond := Cond.selects RX6 yX6_bufferedValue yX6_bufferedValue :: wB1028
def wB1026 : List Cond := Cond.instanceMethod yX6_bufferedValue :: wB1027
def wB1025 : List Cond := Cond.methodLink RL 92 yX6_bufferedValue :: wB1026
def wB1024 : List Cond := Cond.selects RX6 yX6_commitTime yX6_commitTime :: wB1025
def wB1023 : List Cond := Cond.instanceMethod yX6_commitTime :: wB1024
def wB1022 : List Cond := Cond.methodLink RL 89 yX6_commitTime :: wB1023
def wB1021 : List Cond := Cond.codeWith yL_commitTime cL_commitTime 4 (some .int) [(0, 9, 12, 13)] :: wB1022
def wB1020 : List Cond := Cond.selects RX6 yX6_requestTime yX6_requestTime :: wB1021
def wB1019 : List Cond := Cond.instanceMethod yX6_requestTime :: wB1020
def wB1018 : List Cond := Cond.methodLink RL 86 yX6_requestTime :: wB1019
def wB1017 : List Cond := Cond.codeWith yL_requestTime cL_requestTime 4 (some .int) [(0, 9, 12, 13)] :: wB1018
def wB1016 : List Cond := Cond.selects RX6 yX6_timestamp yX6_timestamp :: wB1017
def wB1015 : List Cond := Cond.instanceMethod yX6_timestamp :: wB1016
def wB1014 : List Cond := Cond.methodLink RL 83 yX6_timestamp :: wB1015
def wB1013 : List Cond := Cond.codeWith yL_timestamp cL_timestamp 4 (some .int) [(0, 9, 12, 13)] :: wB1014
def wB1012 : List Cond := Cond.selects RX6 yX6_state yX6_state :: wB1013
def wB1011 : List Cond := Cond.instanceMethod yX6_state :: wB1012
def wB1010 : List Cond := Cond.methodLink RL 80 yX6_state :: wB1011
def wB1009 : List Cond := Cond.codeWith yL_state cL_state 4 (some .int) [(0, 9, 12, 13)] :: wB1010
def wB1008 : List Cond := Cond.codeWith yL_nextTimestamp cL_nextTimestamp 4 (some .int) [(0, 9, 12, 13)] :: wB1009
def wB1007 : List Cond := Cond.selects RX6 yX6_nextTimestamp yX6_nextTimestamp :: wB1008
def wB1006 : List Cond := Cond.instanceMethod yX6_nextTimestamp :: wB1007
def wB1005 : List Cond := Cond.methodLink RL 77 yX6_nextTimestamp :: wB1006
def wB1004 : List Cond := Cond.codeWith yL_isSound cL_isSound 4 (some .int) [(0, 16, 19, 13)] :: wB1005
def wB1003 : List Cond := Cond.selects RX6 yX6_isSound yX6_isSound :: wB1004
def wB1002 : List Cond := Cond.instanceMethod yX6_isSound :: wB1003
def wB1001 : List Cond := Cond.methodLink RL 73 yX6_isSound :: wB1002
def wB1000 : List Cond := Cond.codeWith yL_latest cL_latest 4 (some .int) [(0, 9, 12, 13)] :: wB1001
def wB999 : List Cond := Cond.selects RX6 yX6_latest yX6_latest :: wB1000
def wB998 : List Cond := Cond.instanceMethod yX6_latest :: wB999
def wB997 : List Cond := Cond.methodLink RL 70 yX6_latest :: wB998
def wB996 : List Cond := Cond.codeWith yL_earliest cL_earliest 4 (some .int) [(0, 9, 12, 13)] :: wB997
def wB995 : List Cond := Cond.selects RX6 yX6_earliest yX6_earliest :: wB996
def wB994 : List Cond := Cond.instanceMethod yX6_earliest :: wB995
def wB993 : List Cond := Cond.methodLink RL 67 yX6_earliest :: wB994
def wB992 : List Cond := Cond.codeWith yL_reading cL_reading 4 (some .int) [(0, 9, 12, 13)] :: wB993
def wB991 : List Cond := Cond.selects RX6 yX6_reading yX6_reading :: wB992
def wB990 : List Cond := Cond.instanceMethod yX6_reading :: wB991
def wB989 : List Cond := Cond.methodLink RL 64 yX6_reading :: wB990
def wB988 : List Cond := Cond.codeWith yL_restore cL_restore 4 (some .int) [(0, 9, 12, 13), (0, 9, 15, 15)] :: wB989
def wB987 : List Cond := Cond.selects RX6 yX6_restore yX6_restore :: wB988
def wB986 : List Cond := Cond.instanceMethod yX6_restore :: wB987
def wB985 : List Cond := Cond.methodLink RL 61 yX6_restore :: wB986
def wB984 : List Cond := Cond.codeWith yL_save cL_save 4 (some .int) [(0, 9, 12, 13)] :: wB985
def wB983 : List Cond := Cond.selects RX6 yX6_save yX6_save :: wB984
def wB982 : List Cond := Cond.instanceMethod yX6_save :: wB983
def wB981 : List Cond := Cond.methodLink RL 58 yX6_save :: wB982
def wB980 : List Cond := Cond.codeWith yL_undo cL_undo 3 (some .int) [(0, 8, 11, 15)] :: wB981
def wB979 : List Cond := Cond.selects RX6 yX6_undo yX6_undo :: wB980
def wB978 : List Cond := Cond.instanceMethod yX6_undo :: wB979
def wB977 : List Cond := Cond.methodLink RL 55 yX6_undo :: wB978
def wB976 : List Cond := Cond.codeWith yL_runText cL_runText 3 (some .int) [(0, 8, 11, 15)] :: wB977
def wB975 : List Cond := Cond.selects RX6 yX6_runText yX6_runText :: wB976
def wB974 : List Cond := Cond.instanceMethod yX6_runText :: wB975
def wB973 : List Cond := Cond.methodLink RL 51 yX6_runText :: wB974
def wB972 : List Cond := Cond.codeWith yL_appendText cL_appendText 4 (some .int) [(0, 9, 12, 25), (0, 9, 15, 15)] :: wB973
def wB971 : List Cond := Cond.selects RX6 yX6_appendText yX6_appendText :: wB972
def wB970 : List Cond := Cond.instanceMethod yX6_appendText :: wB971
def wB969 : List Cond := Cond.methodLink RL 48 yX6_appendText :: wB970
def wB968 : List Cond := Cond.codeWith yL_snapshotRead cL_snapshotRead 5 (some .int) [(0, 10, 13, 13), (0, 10, 17, 25), (0, 10, 21, 15)] :: wB969
def wB967 : List Cond := Cond.selects RX6 yX6_snapshotRead yX6_snapshotRead :: wB968
def wB966 : List Cond := Cond.instanceMethod yX6_snapshotRead :: wB967
def wB965 : List Cond := Cond.methodLink RL 45 yX6_snapshotRead :: wB966
def wB964 : List Cond := Cond.codeWith yL_setUncertainty cL_setUncertainty 6 (some .int) [(0, 12, 15, 13), (0, 12, 19, 25)] :: wB965
def wB963 : List Cond := Cond.selects RX6 yX6_setUncertainty yX6_setUncertainty :: wB964
def wB962 : List Cond := Cond.instanceMethod yX6_setUncertainty :: wB963
def wB961 : List Cond := Cond.methodLink RL 42 yX6_setUncertainty :: wB962
def wB960 : List Cond := Cond.codeWith yL_setDrift cL_setDrift 5 (some .int) [(0, 10, 13, 13), (0, 10, 17, 25)] :: wB961
def wB959 : List Cond := Cond.selects RX6 yX6_setDrift yX6_setDrift :: wB960
def wB958 : List Cond := Cond.instanceMethod yX6_setDrift :: wB959
def wB957 : List Cond := Cond.methodLink RL 39 yX6_setDrift :: wB958
def wB956 : List Cond := Cond.codeWith yL_synchronize cL_synchronize 5 (some .int) [(0, 10, 13, 13), (0, 10, 17, 25)] :: wB957
def wB955 : List Cond := Cond.selects RX6 yX6_synchronize yX6_synchronize :: wB956
def wB954 : List Cond := Cond.instanceMethod yX6_synchronize :: wB955
def wB953 : List Cond := Cond.methodLink RL 36 yX6_synchronize :: wB954
def wB952 : List Cond := Cond.codeWith yL_advance cL_advance 4 (some .int) [(0, 9, 12, 25), (0, 9, 15, 15)] :: wB953
def wB951 : List Cond := Cond.selects RX6 yX6_advance yX6_advance :: wB952
def wB950 : List Cond := Cond.instanceMethod yX6_advance :: wB951
def wB949 : List Cond := Cond.methodLink RL 33 yX6_advance :: wB950
def wB948 : List Cond := Cond.codeWith yL_abort cL_abort 4 (some .int) [(0, 9, 12, 13), (0, 9, 15, 15)] :: wB949
def wB947 : List Cond := Cond.selects RX6 yX6_abort yX6_abort :: wB948
def wB946 : List Cond := Cond.instanceMethod yX6_abort :: wB947
def wB945 : List Cond := Cond.methodLink RL 30 yX6_abort :: wB946
def wB944 : List Cond := Cond.codeWith yL_commit cL_commit 4 (some .int) [(0, 9, 12, 13), (0, 9, 15, 15)] :: wB945
def wB943 : List Cond := Cond.selects RX6 yX6_commit yX6_commit :: wB944
def wB942 : List Cond := Cond.instanceMethod yX6_commit :: wB943
def wB941 : List Cond := Cond.methodLink RL 27 yX6_commit :: wB942
def wB940 : List Cond := Cond.codeWith yL_write cL_write 6 (some .int) [(0, 12, 15, 13), (0, 12, 19, 25), (0, 12, 23, 15)] :: wB941
def wB939 : List Cond := Cond.selects RX6 yX6_write yX6_write :: wB940
def wB938 : List Cond := Cond.instanceMethod yX6_write :: wB939
def wB937 : List Cond := Cond.methodLink RL 21 yX6_write :: wB938
def wB936 : List Cond := Cond.classLink RL 25 "java/lang/IllegalArgumentException" :: wB937
def wB935 : List Cond := Cond.codeWith yL_read cL_read 5 (some .int) [(0, 10, 13, 13), (0, 10, 17, 15)] :: wB936
def wB934 : List Cond := Cond.selects RX6 yX6_read yX6_read :: wB935
def wB933 : List Cond := Cond.instanceMethod yX6_read :: wB934
def wB932 : List Cond := Cond.methodLink RL 17 yX6_read :: wB933
def wB931 : List Cond := Cond.codeWith yL_begin cL_begin 4 (some .int) [(0, 9, 12, 13), (0, 9, 15, 15)] :: wB932
def wB930 : List Cond := Cond.selects RX6 yX6_begin yX6_begin :: wB931
def wB929 : List Cond := Cond.instanceMethod yX6_begin :: wB930
def wB928 : List Cond := Cond.methodLink RL 7 yX6_begin :: wB929
def wB927 : List Cond := Cond.classLink RL 15 "java/lang/IllegalStateException" :: wB928
def wB926 : List Cond := Cond.classLink RL 13 "java/lang/IndexOutOfBoundsException" :: wB927
def wB925 : List Cond := Cond.code yJ9_min_7cf53 cJ9_min_7cf53 2 (some .int) :: wB926
def wB924 : List Cond := Cond.code yJ9_max_7cf53 cJ9_max_7cf53 2 (some .int) :: wB925
def wB923 : List Cond := Cond.code yX7_textLength cX7_textLength 1 (some .int) :: wB924
def wB922 : List Cond := Cond.code yX7_savedStates cX7_savedStates 1 (some .int) :: wB923
def wB921 : List Cond := Cond.selects RX7 yX7_isInverted yX7_isInverted :: wB922
def wB920 : List Cond := Cond.instanceMethod yX7_isInverted :: wB921
def wB919 : List Cond := Cond.methodLink RX7 247 yX7_isInverted :: wB920
def wB918 : List Cond := Cond.code yX7_inversions cX7_inversions 4 (some .int) :: wB919
def wB917 : List Cond := Cond.code yX7_isInverted cX7_isInverted 4 (some .boolean) :: wB918
def wB916 : List Cond := Cond.code yX7_unsoundUses cX7_unsoundUses 1 (some .int) :: wB917
def wB915 : List Cond := Cond.code yX7_totalWait cX7_totalWait 3 (some .int) :: wB916
def wB914 : List Cond := Cond.selects RX7 yX7_count yX7_count :: wB915
def wB913 : List Cond := Cond.instanceMethod yX7_count :: wB914
def wB912 : List Cond := Cond.methodLink RX7 244 yX7_count :: wB913
def wB911 : List Cond := Cond.code yX7_countInState cX7_countInState 2 (some .int) :: wB912
def wB910 : List Cond := Cond.code yX7_count cX7_count 4 (some .int) :: wB911
def wB909 : List Cond := Cond.code yX7_ticksUntilSafe cX7_ticksUntilSafe 3 (some .int) :: wB910
def wB908 : List Cond := Cond.selects RX7 yX7_ticksOfServers yX7_ticksOfServers :: wB909
def wB907 : List Cond := Cond.instanceMethod yX7_ticksOfServers :: wB908
def wB906 : List Cond := Cond.methodLink RX7 241 yX7_ticksOfServers :: wB907
def wB905 : List Cond := Cond.selects RX7 yX7_ticksOfWaiting yX7_ticksOfWaiting :: wB906
def wB904 : List Cond := Cond.instanceMethod yX7_ticksOfWaiting :: wB905
def wB903 : List Cond := Cond.methodLink RX7 238 yX7_ticksOfWaiting :: wB904
def wB902 : List Cond := Cond.code yX7_ticksOfWaiting cX7_ticksOfWaiting 5 (some .int) :: wB903
def wB901 : List Cond := Cond.code yX7_ticksOfServers cX7_ticksOfServers 4 (some .int) :: wB902
def wB900 : List Cond := Cond.code yX7_readFloor cX7_readFloor 1 (some .int) :: wB901
def wB899 : List Cond := Cond.code yX7_safeTime cX7_safeTime 1 (some .int) :: wB900
def wB898 : List Cond := Cond.code yX7_readerMark cX7_readerMark 2 (some .int) :: wB899
def wB897 : List Cond := Cond.code yX7_waitingWriter cX7_waitingWriter 3 (some .int) :: wB898
def wB896 : List Cond := Cond.code yX7_replayedValueAt cX7_replayedValueAt 5 (some .int) :: wB897
def wB895 : List Cond := Cond.selects RX7 yX7_nextApplied yX7_nextApplied :: wB896
def wB894 : List Cond := Cond.instanceMethod yX7_nextApplied :: wB895
def wB893 : List Cond := Cond.methodLink RX7 235 yX7_nextApplied :: wB894
def wB892 : List Cond := Cond.code yX7_nextApplied cX7_nextApplied 6 (some .int) :: wB893
def wB891 : List Cond := Cond.code yX7_valueAt cX7_valueAt 3 (some .int) :: wB892
def wB890 : List Cond := Cond.selects RX7 yX7_throwsForValue yX7_throwsForValue :: wB891
def wB889 : List Cond := Cond.instanceMethod yX7_throwsForValue :: wB890
def wB888 : List Cond := Cond.methodLink RX7 232 yX7_throwsForValue :: wB889
def wB887 : List Cond := Cond.code yX7_throwsForValue cX7_throwsForValue 3 (some .boolean) :: wB888
def wB886 : List Cond := Cond.code yX7_versionTimestamp cX7_versionTimestamp 4 (some .int) :: wB887
def wB885 : List Cond := Cond.selects RX7 yX7_stampAt yX7_stampAt :: wB886
def wB884 : List Cond := Cond.instanceMethod yX7_stampAt :: wB885
def wB883 : List Cond := Cond.methodLink RX7 229 yX7_stampAt :: wB884
def wB882 : List Cond := Cond.code yX7_stampAt cX7_stampAt 6 (some .int) :: wB883
def wB881 : List Cond := Cond.code yX7_versions cX7_versions 4 (some .int) :: wB882
def wB880 : List Cond := Cond.code yX7_ticksToCommit cX7_ticksToCommit 3 (some .int) :: wB881
def wB879 : List Cond := Cond.code yX7_ifCommitted cX7_ifCommitted 2 (some .int) :: wB880
def wB878 : List Cond := Cond.code yX7_recordedTimestamp cX7_recordedTimestamp 4 (some .int) :: wB879
def wB877 : List Cond := Cond.code yX7_bufferedValue cX7_bufferedValue 4 (some .int) :: wB878
def wB876 : List Cond := Cond.code yX7_commitTime cX7_commitTime 2 (some .int) :: wB877
def wB875 : List Cond := Cond.code yX7_requestTime cX7_requestTime 2 (some .int) :: wB876
def wB874 : List Cond := Cond.code yX7_timestamp cX7_timestamp 2 (some .int) :: wB875
def wB873 : List Cond := Cond.selects RX7 yX7_isStamped yX7_isStamped :: wB874
def wB872 : List Cond := Cond.instanceMethod yX7_isStamped :: wB873
def wB871 : List Cond := Cond.methodLink RX7 226 yX7_isStamped :: wB872
def wB870 : List Cond := Cond.selects RX7 yX7_throwsFor yX7_throwsFor :: wB871
def wB869 : List Cond := Cond.instanceMethod yX7_throwsFor :: wB870
def wB868 : List Cond := Cond.methodLink RX7 223 yX7_throwsFor :: wB869
def wB867 : List Cond := Cond.code yX7_state cX7_state 2 (some .int) :: wB868
def wB866 : List Cond := Cond.code yX7_isStamped cX7_isStamped 2 (some .boolean) :: wB867
def wB865 : List Cond := Cond.code yX7_throwsFor cX7_throwsFor 2 (some .boolean) :: wB866
def wB864 : List Cond := Cond.code yX7_transactions cX7_transactions 1 (some .int) :: wB865
def wB863 : List Cond := Cond.code yX7_nextTimestamp cX7_nextTimestamp 2 (some .int) :: wB864
def wB862 : List Cond := Cond.code yX7_isSound cX7_isSound 2 (some .boolean) :: wB863
def wB861 : List Cond := Cond.code yX7_latest cX7_latest 2 (some .int) :: wB862
def wB860 : List Cond := Cond.code yX7_earliest cX7_earliest 2 (some .int) :: wB861
def wB859 : List Cond := Cond.code yX7_reading cX7_reading 2 (some .int) :: wB860
def wB858 : List Cond := Cond.code yX7_trueTime cX7_trueTime 1 (some .int) :: wB859
def wB857 : List Cond := Cond.code yX7_restore cX7_restore 3 (some .int) :: wB858
def wB856 : List Cond := Cond.code yX7_save cX7_save 3 (some .int) :: wB857
def wB855 : List Cond := Cond.code yX7_undo cX7_undo 2 (some .int) :: wB856
def wB854 : List Cond := Cond.code yX7_runText cX7_runText 3 (some .int) :: wB855
def wB853 : List Cond := Cond.selects RX7 yX7_executes yX7_executes :: wB854
def wB852 : List Cond := Cond.instanceMethod yX7_executes :: wB853
def wB851 : List Cond := Cond.methodLink RX7 220 yX7_executes :: wB852
def wB850 : List Cond := Cond.code yX7_executes cX7_executes 7 (some .boolean) :: wB851
def wB849 : List Cond := Cond.selects RX7 yX7_ends yX7_ends :: wB850
def wB848 : List Cond := Cond.instanceMethod yX7_ends :: wB849
def wB847 : List Cond := Cond.methodLink RX7 216 yX7_ends :: wB848
def wB846 : List Cond := Cond.selects RX7 yX7_argument yX7_argument :: wB847
def wB845 : List Cond := Cond.instanceMethod yX7_argument :: wB846
def wB844 : List Cond := Cond.methodLink RX7 213 yX7_argument :: wB845
def wB843 : List Cond := Cond.selects RX7 yX7_numberAt yX7_numberAt :: wB844
def wB842 : List Cond := Cond.instanceMethod yX7_numberAt :: wB843
def wB841 : List Cond := Cond.methodLink RX7 210 yX7_numberAt :: wB842
def wB840 : List Cond := Cond.code yX7_ends cX7_ends 5 none :: wB841
def wB839 : List Cond := Cond.code yX7_argument cX7_argument 3 (some .int) :: wB840
def wB838 : List Cond := Cond.code yX7_numberAt cX7_numberAt 5 (some .int) :: wB839
def wB837 : List Cond := Cond.code yX7_errorPosition cX7_errorPosition 1 (some .int) :: wB838
def wB836 : List Cond := Cond.selects RX7 yX7_error yX7_error :: wB837
def wB835 : List Cond := Cond.instanceMethod yX7_error :: wB836
def wB834 : List Cond := Cond.methodLink RX7 207 yX7_error :: wB835
def wB833 : List Cond := Cond.code yX7_error cX7_error 4 (some .int) :: wB834
def wB832 : List Cond := Cond.selects RX7 yX7_commandEnd yX7_commandEnd :: wB833
def wB831 : List Cond := Cond.instanceMethod yX7_commandEnd :: wB832
def wB830 : List Cond := Cond.methodLink RX7 204 yX7_commandEnd :: wB831
def wB829 : List Cond := Cond.code yX7_commandEnd cX7_commandEnd 3 (some .int) :: wB830
def wB828 : List Cond := Cond.selects RX7 yX7_offsetEnd yX7_offsetEnd :: wB829
def wB827 : List Cond := Cond.instanceMethod yX7_offsetEnd :: wB828
def wB826 : List Cond := Cond.methodLink RX7 201 yX7_offsetEnd :: wB827
def wB825 : List Cond := Cond.selects RX7 yX7_numberBehind yX7_numberBehind :: wB826
def wB824 : List Cond := Cond.instanceMethod yX7_numberBehind :: wB825
def wB823 : List Cond := Cond.methodLink RX7 198 yX7_numberBehind :: wB824
def wB822 : List Cond := Cond.code yX7_offsetEnd cX7_offsetEnd 4 (some .int) :: wB823
def wB821 : List Cond := Cond.selects RX7 yX7_numberEnd yX7_numberEnd :: wB822
def wB820 : List Cond := Cond.instanceMethod yX7_numberEnd :: wB821
def wB819 : List Cond := Cond.methodLink RX7 195 yX7_numberEnd :: wB820
def wB818 : List Cond := Cond.selects RX7 yX7_behind yX7_behind :: wB819
def wB817 : List Cond := Cond.instanceMethod yX7_behind :: wB818
def wB816 : List Cond := Cond.methodLink RX7 192 yX7_behind :: wB817
def wB815 : List Cond := Cond.code yX7_numberBehind cX7_numberBehind 3 (some .int) :: wB816
def wB814 : List Cond := Cond.code yX7_behind cX7_behind 3 (some .int) :: wB815
def wB813 : List Cond := Cond.selects RX7 yX7_digit yX7_digit :: wB814
def wB812 : List Cond := Cond.instanceMethod yX7_digit :: wB813
def wB811 : List Cond := Cond.methodLink RX7 189 yX7_digit :: wB812
def wB810 : List Cond := Cond.code yX7_numberEnd cX7_numberEnd 6 (some .int) :: wB811
def wB809 : List Cond := Cond.selects RX7 yX7_sign yX7_sign :: wB810
def wB808 : List Cond := Cond.instanceMethod yX7_sign :: wB809
def wB807 : List Cond := Cond.methodLink RX7 186 yX7_sign :: wB808
def wB806 : List Cond := Cond.code yX7_digit cX7_digit 2 (some .int) :: wB807
def wB805 : List Cond := Cond.code yX7_sign cX7_sign 2 (some .int) :: wB806
def wB804 : List Cond := Cond.code yX7_clearText cX7_clearText 2 (some .int) :: wB805
def wB803 : List Cond := Cond.fieldLink RX7 183 "CommitWaitStoreModel" "length" "I" :: wB804
def wB802 : List Cond := Cond.code yX7_appendText cX7_appendText 2 (some .int) :: wB803
def wB801 : List Cond := Cond.code yX7_snapshotRead cX7_snapshotRead 3 (some .int) :: wB802
def wB800 : List Cond := Cond.selects RX7 yX7_safeNow yX7_safeNow :: wB801
def wB799 : List Cond := Cond.instanceMethod yX7_safeNow :: wB800
def wB798 : List Cond := Cond.methodLink RX7 179 yX7_safeNow :: wB799
def wB797 : List Cond := Cond.code yX7_safeNow cX7_safeNow 3 (some .int) :: wB798
def wB796 : List Cond := Cond.selects RX7 yX7_safe yX7_safe :: wB797
def wB795 : List Cond := Cond.instanceMethod yX7_safe :: wB796
def wB794 : List Cond := Cond.methodLink RX7 176 yX7_safe :: wB795
def wB793 : List Cond := Cond.code yX7_safe cX7_safe 5 (some .int) :: wB794
def wB792 : List Cond := Cond.code yX7_setUncertainty cX7_setUncertainty 5 (some .int) :: wB793
def wB791 : List Cond := Cond.code yX7_setDrift cX7_setDrift 4 (some .int) :: wB792
def wB790 : List Cond := Cond.code yX7_synchronize cX7_synchronize 3 (some .int) :: wB791
def wB789 : List Cond := Cond.selects RX7 yX7_synchronizes yX7_synchronizes :: wB790
def wB788 : List Cond := Cond.instanceMethod yX7_synchronizes :: wB789
def wB787 : List Cond := Cond.methodLink RX7 173 yX7_synchronizes :: wB788
def wB786 : List Cond := Cond.selects RX7 yX7_whyNotSynchronize yX7_whyNotSynchronize :: wB787
def wB785 : List Cond := Cond.instanceMethod yX7_whyNotSynchronize :: wB786
def wB784 : List Cond := Cond.methodLink RX7 170 yX7_whyNotSynchronize :: wB785
def wB783 : List Cond := Cond.code yX7_advance cX7_advance 2 (some .int) :: wB784
def wB782 : List Cond := Cond.selects RX7 yX7_advances yX7_advances :: wB783
def wB781 : List Cond := Cond.instanceMethod yX7_advances :: wB782
def wB780 : List Cond := Cond.methodLink RX7 167 yX7_advances :: wB781
def wB779 : List Cond := Cond.selects RX7 yX7_whyNotAdvance yX7_whyNotAdvance :: wB780
def wB778 : List Cond := Cond.instanceMethod yX7_whyNotAdvance :: wB779
def wB777 : List Cond := Cond.methodLink RX7 164 yX7_whyNotAdvance :: wB778
def wB776 : List Cond := Cond.code yX7_abort cX7_abort 2 (some .int) :: wB777
def wB775 : List Cond := Cond.code yX7_commit cX7_commit 3 (some .int) :: wB776
def wB774 : List Cond := Cond.selects RX7 yX7_requests yX7_requests :: wB775
def wB773 : List Cond := Cond.instanceMethod yX7_requests :: wB774
def wB772 : List Cond := Cond.methodLink RX7 161 yX7_requests :: wB773
def wB771 : List Cond := Cond.selects RX7 yX7_outcome yX7_outcome :: wB772
def wB770 : List Cond := Cond.instanceMethod yX7_outcome :: wB771
def wB769 : List Cond := Cond.methodLink RX7 158 yX7_outcome :: wB770
def wB768 : List Cond := Cond.code yX7_write cX7_write 4 (some .int) :: wB769
def wB767 : List Cond := Cond.selects RX7 yX7_writes yX7_writes :: wB768
def wB766 : List Cond := Cond.instanceMethod yX7_writes :: wB767
def wB765 : List Cond := Cond.methodLink RX7 155 yX7_writes :: wB766
def wB764 : List Cond := Cond.selects RX7 yX7_whyNotWrite yX7_whyNotWrite :: wB765
def wB763 : List Cond := Cond.instanceMethod yX7_whyNotWrite :: wB764
def wB762 : List Cond := Cond.methodLink RX7 151 yX7_whyNotWrite :: wB763
def wB761 : List Cond := Cond.code yX7_read cX7_read 3 (some .int) :: wB762
def wB760 : List Cond := Cond.selects RX7 yX7_reads yX7_reads :: wB761
def wB759 : List Cond := Cond.instanceMethod yX7_reads :: wB760
def wB758 : List Cond := Cond.methodLink RX7 148 yX7_reads :: wB759
def wB757 : List Cond := Cond.selects RX7 yX7_whyNotRead yX7_whyNotRead :: wB758
def wB756 : List Cond := Cond.instanceMethod yX7_whyNotRead :: wB757
def wB755 : List Cond := Cond.methodLink RX7 145 yX7_whyNotRead :: wB756
def wB754 : List Cond := Cond.code yX7_begin cX7_begin 2 (some .int) :: wB755
def wB753 : List Cond := Cond.selects RX7 yX7_begins yX7_begins :: wB754
def wB752 : List Cond := Cond.instanceMethod yX7_begins :: wB753
def wB751 : List Cond := Cond.methodLink RX7 142 yX7_begins :: wB752
def wB750 : List Cond := Cond.selects RX7 yX7_saves yX7_saves :: wB751
def wB749 : List Cond := Cond.instanceMethod yX7_saves :: wB750
def wB748 : List Cond := Cond.methodLink RX7 139 yX7_saves :: wB749
def wB747 : List Cond := Cond.selects RX7 yX7_throwsAt yX7_throwsAt :: wB748
def wB746 : List Cond := Cond.instanceMethod yX7_throwsAt :: wB747
def wB745 : List Cond := Cond.methodLink RX7 136 yX7_throwsAt :: wB746
def wB744 : List Cond := Cond.selects RX7 yX7_whyNotBegin yX7_whyNotBegin :: wB745
def wB743 : List Cond := Cond.instanceMethod yX7_whyNotBegin :: wB744
def wB742 : List Cond := Cond.methodLink RX7 133 yX7_whyNotBegin :: wB743
def wB741 : List Cond := Cond.selects RX7 yX7_sets yX7_sets :: wB742
def wB740 : List Cond := Cond.instanceMethod yX7_sets :: wB741
def wB739 : List Cond := Cond.methodLink RX7 129 yX7_sets :: wB740
def wB738 : List Cond := Cond.code yX7_synchronizes cX7_synchronizes 4 (some .int) :: wB739
def wB737 : List Cond := Cond.code yX7_advances cX7_advances 5 (some .int) :: wB738
def wB736 : List Cond := Cond.code yX7_requests cX7_requests 3 none :: wB737
def wB735 : List Cond := Cond.selects RX7 yX7_uses yX7_uses :: wB736
def wB734 : List Cond := Cond.instanceMethod yX7_uses :: wB735
def wB733 : List Cond := Cond.methodLink RX7 125 yX7_uses :: wB734
def wB732 : List Cond := Cond.selects RX7 yX7_written yX7_written :: wB733
def wB731 : List Cond := Cond.instanceMethod yX7_written :: wB732
def wB730 : List Cond := Cond.methodLink RX7 122 yX7_written :: wB731
def wB729 : List Cond := Cond.code yX7_writes cX7_writes 4 (some .int) :: wB730
def wB728 : List Cond := Cond.code yX7_reads cX7_reads 3 (some .int) :: wB729
def wB727 : List Cond := Cond.selects RX7 yX7_value yX7_value :: wB728
def wB726 : List Cond := Cond.instanceMethod yX7_value :: wB727
def wB725 : List Cond := Cond.methodLink RX7 119 yX7_value :: wB726
def wB724 : List Cond := Cond.selects RX7 yX7_lays yX7_lays :: wB725
def wB723 : List Cond := Cond.instanceMethod yX7_lays :: wB724
def wB722 : List Cond := Cond.methodLink RX7 115 yX7_lays :: wB723
def wB721 : List Cond := Cond.code yX7_begins cX7_begins 4 (some .int) :: wB722
def wB720 : List Cond := Cond.code yX7_whyNotSynchronize cX7_whyNotSynchronize 3 (some .int) :: wB721
def wB719 : List Cond := Cond.constant RX7 114 (1000000) :: wB720
def wB718 : List Cond := Cond.code yX7_whyNotAdvance cX7_whyNotAdvance 2 (some .int) :: wB719
def wB717 : List Cond := Cond.code yX7_whyNotWrite cX7_whyNotWrite 4 (some .int) :: wB718
def wB716 : List Cond := Cond.selects RX7 yX7_whyNot yX7_whyNot :: wB717
def wB715 : List Cond := Cond.instanceMethod yX7_whyNot :: wB716
def wB714 : List Cond := Cond.methodLink RX7 111 yX7_whyNot :: wB715
def wB713 : List Cond := Cond.static yX7_isKey :: wB714
def wB712 : List Cond := Cond.methodLink RX7 108 yX7_isKey :: wB713
def wB711 : List Cond := Cond.code yX7_whyNotRead cX7_whyNotRead 3 (some .int) :: wB712
def wB710 : List Cond := Cond.selects RX7 yX7_isTransaction yX7_isTransaction :: wB711
def wB709 : List Cond := Cond.instanceMethod yX7_isTransaction :: wB710
def wB708 : List Cond := Cond.methodLink RX7 105 yX7_isTransaction :: wB709
def wB707 : List Cond := Cond.code yX7_whyNot cX7_whyNot 2 (some .int) :: wB708
def wB706 : List Cond := Cond.static yX7_isServer :: wB707
def wB705 : List Cond := Cond.methodLink RX7 102 yX7_isServer :: wB706
def wB704 : List Cond := Cond.code yX7_whyNotBegin cX7_whyNotBegin 2 (some .int) :: wB705
def wB703 : List Cond := Cond.code yX7_outcome cX7_outcome 2 (some .int) :: wB704
def wB702 : List Cond := Cond.selects RX7 yX7_stamp yX7_stamp :: wB703
def wB701 : List Cond := Cond.instanceMethod yX7_stamp :: wB702
def wB700 : List Cond := Cond.methodLink RX7 99 yX7_stamp :: wB701
def wB699 : List Cond := Cond.selects RX7 yX7_isLocked yX7_isLocked :: wB700
def wB698 : List Cond := Cond.instanceMethod yX7_isLocked :: wB699
def wB697 : List Cond := Cond.methodLink RX7 96 yX7_isLocked :: wB698
def wB696 : List Cond := Cond.selects RX7 yX7_isConflict yX7_isConflict :: wB697
def wB695 : List Cond := Cond.instanceMethod yX7_isConflict :: wB696
def wB694 : List Cond := Cond.methodLink RX7 92 yX7_isConflict :: wB695
def wB693 : List Cond := Cond.code yX7_stamp cX7_stamp 5 (some .int) :: wB694
def wB692 : List Cond := Cond.selects RX7 yX7_mark yX7_mark :: wB693
def wB691 : List Cond := Cond.instanceMethod yX7_mark :: wB692
def wB690 : List Cond := Cond.methodLink RX7 89 yX7_mark :: wB691
def wB689 : List Cond := Cond.selects RX7 yX7_next yX7_next :: wB690
def wB688 : List Cond := Cond.instanceMethod yX7_next :: wB689
def wB687 : List Cond := Cond.methodLink RX7 86 yX7_next :: wB688
def wB686 : List Cond := Cond.code yX7_next cX7_next 4 (some .int) :: wB687
def wB685 : List Cond := Cond.selects RX7 yX7_bars yX7_bars :: wB686
def wB684 : List Cond := Cond.instanceMethod yX7_bars :: wB685
def wB683 : List Cond := Cond.methodLink RX7 83 yX7_bars :: wB684
def wB682 : List Cond := Cond.code yX7_isLocked cX7_isLocked 4 (some .boolean) :: wB683
def wB681 : List Cond := Cond.code yX7_bars cX7_bars 6 (some .boolean) :: wB682
def wB680 : List Cond := Cond.code yX7_isConflict cX7_isConflict 4 (some .boolean) :: wB681
def wB679 : List Cond := Cond.selects RX7 yX7_newest yX7_newest :: wB680
def wB678 : List Cond := Cond.instanceMethod yX7_newest :: wB679
def wB677 : List Cond := Cond.methodLink RX7 80 yX7_newest :: wB678
def wB676 : List Cond := Cond.static yX7_greater :: wB677
def wB675 : List Cond := Cond.methodLink RX7 77 yX7_greater :: wB676
def wB674 : List Cond := Cond.selects RX7 yX7_hasRead yX7_hasRead :: wB675
def wB673 : List Cond := Cond.instanceMethod yX7_hasRead :: wB674
def wB672 : List Cond := Cond.methodLink RX7 74 yX7_hasRead :: wB673
def wB671 : List Cond := Cond.code yX7_mark cX7_mark 4 (some .int) :: wB672
def wB670 : List Cond := Cond.constant RX7 73 (2000000000) :: wB671
def wB669 : List Cond := Cond.code yX7_newest cX7_newest 3 (some .int) :: wB670
def wB668 : List Cond := Cond.selects RX7 yX7_writer yX7_writer :: wB669
def wB667 : List Cond := Cond.instanceMethod yX7_writer :: wB668
def wB666 : List Cond := Cond.methodLink RX7 70 yX7_writer :: wB667
def wB665 : List Cond := Cond.code yX7_value cX7_value 4 (some .int) :: wB666
def wB664 : List Cond := Cond.selects RX7 yX7_isVersion yX7_isVersion :: wB665
def wB663 : List Cond := Cond.instanceMethod yX7_isVersion :: wB664
def wB662 : List Cond := Cond.methodLink RX7 67 yX7_isVersion :: wB663
def wB661 : List Cond := Cond.code yX7_writer cX7_writer 5 (some .int) :: wB662
def wB660 : List Cond := Cond.code yX7_isVersion cX7_isVersion 3 (some .boolean) :: wB661
def wB659 : List Cond := Cond.selects RX7 yX7_hasWritten yX7_hasWritten :: wB660
def wB658 : List Cond := Cond.instanceMethod yX7_hasWritten :: wB659
def wB657 : List Cond := Cond.methodLink RX7 64 yX7_hasWritten :: wB658
def wB656 : List Cond := Cond.code yX7_written cX7_written 4 (some .int) :: wB657
def wB655 : List Cond := Cond.code yX7_hasRead cX7_hasRead 3 (some .boolean) :: wB656
def wB654 : List Cond := Cond.selects RX7 yX7_of yX7_of :: wB655
def wB653 : List Cond := Cond.instanceMethod yX7_of :: wB654
def wB652 : List Cond := Cond.methodLink RX7 61 yX7_of :: wB653
def wB651 : List Cond := Cond.code yX7_hasWritten cX7_hasWritten 3 (some .boolean) :: wB652
def wB650 : List Cond := Cond.code yX7_lays cX7_lays 3 none :: wB651
def wB649 : List Cond := Cond.code yX7_of cX7_of 3 (some .int) :: wB650
def wB648 : List Cond := Cond.code yX7_uses cX7_uses 2 none :: wB649
def wB647 : List Cond := Cond.selects RX7 yX7_isSoundAt yX7_isSoundAt :: wB648
def wB646 : List Cond := Cond.instanceMethod yX7_isSoundAt :: wB647
def wB645 : List Cond := Cond.methodLink RX7 57 yX7_isSoundAt :: wB646
def wB644 : List Cond := Cond.code yX7_isSoundAt cX7_isSoundAt 3 (some .boolean) :: wB645
def wB643 : List Cond := Cond.selects RX7 yX7_latestAt yX7_latestAt :: wB644
def wB642 : List Cond := Cond.instanceMethod yX7_latestAt :: wB643
def wB641 : List Cond := Cond.methodLink RX7 54 yX7_latestAt :: wB642
def wB640 : List Cond := Cond.selects RX7 yX7_earliestAt yX7_earliestAt :: wB641
def wB639 : List Cond := Cond.instanceMethod yX7_earliestAt :: wB640
def wB638 : List Cond := Cond.methodLink RX7 51 yX7_earliestAt :: wB639
def wB637 : List Cond := Cond.code yX7_latestAt cX7_latestAt 3 (some .int) :: wB638
def wB636 : List Cond := Cond.selects RX7 yX7_uncertainty yX7_uncertainty :: wB637
def wB635 : List Cond := Cond.instanceMethod yX7_uncertainty :: wB636
def wB634 : List Cond := Cond.methodLink RX7 48 yX7_uncertainty :: wB635
def wB633 : List Cond := Cond.selects RX7 yX7_offset yX7_offset :: wB634
def wB632 : List Cond := Cond.instanceMethod yX7_offset :: wB633
def wB631 : List Cond := Cond.methodLink RX7 45 yX7_offset :: wB632
def wB630 : List Cond := Cond.code yX7_earliestAt cX7_earliestAt 3 (some .int) :: wB631
def wB629 : List Cond := Cond.code yX7_uncertainty cX7_uncertainty 3 (some .int) :: wB630
def wB628 : List Cond := Cond.static yX7_down :: wB629
def wB627 : List Cond := Cond.methodLink RX7 41 yX7_down :: wB628
def wB626 : List Cond := Cond.selects RX7 yX7_clock yX7_clock :: wB627
def wB625 : List Cond := Cond.instanceMethod yX7_clock :: wB626
def wB624 : List Cond := Cond.methodLink RX7 37 yX7_clock :: wB625
def wB623 : List Cond := Cond.code yX7_offset cX7_offset 3 (some .int) :: wB624
def wB622 : List Cond := Cond.code yX7_sets cX7_sets 4 none :: wB623
def wB621 : List Cond := Cond.code yX7_clock cX7_clock 3 (some .int) :: wB622
def wB620 : List Cond := Cond.code yX7_down cX7_down 1 (some .int) :: wB621
def wB619 : List Cond := Cond.fieldLink RX7 34 "CommitWaitStoreModel" "saved" "I" :: wB620
def wB618 : List Cond := Cond.code yX7_saves cX7_saves 2 none :: wB619
def wB617 : List Cond := Cond.code yX7_greater cX7_greater 2 (some .int) :: wB618
def wB616 : List Cond := Cond.code yX7_isTransaction cX7_isTransaction 2 (some .boolean) :: wB617
def wB615 : List Cond := Cond.code yX7_isKey cX7_isKey 1 (some .boolean) :: wB616
def wB614 : List Cond := Cond.initialized RX7 :: wB615
def wB613 : List Cond := Cond.static yX7_in :: wB614
def wB612 : List Cond := Cond.methodLink RX7 30 yX7_in :: wB613
def wB611 : List Cond := Cond.code yX7_isServer cX7_isServer 1 (some .boolean) :: wB612
def wB610 : List Cond := Cond.code yX7_in cX7_in 3 (some .boolean) :: wB611
def wB609 : List Cond := Cond.code yX7_throwsAt cX7_throwsAt 2 (some .boolean) :: wB610
def wB608 : List Cond := Cond.fieldLink RX7 26 "CommitWaitStoreModel" "thrown" "I" :: wB609
def wB607 : List Cond := Cond.code yX7_thrown cX7_thrown 1 (some .int) :: wB608
def wB606 : List Cond := Cond.fieldLink RX7 23 "CommitWaitStoreModel" "text" "[I" :: wB607
def wB605 : List Cond := Cond.fieldLink RX7 19 "CommitWaitStoreModel" "isFilled" "[Z" :: wB606
def wB604 : List Cond := Cond.fieldLink RX7 16 "CommitWaitStoreModel" "slots" "[I" :: wB605
def wB603 : List Cond := Cond.fieldLink RX7 13 "CommitWaitStoreModel" "past" "[I" :: wB604
def wB602 : List Cond := Cond.fieldLink RX7 7 "CommitWaitStoreModel" "s" "[I" :: wB603
def wB601 : List Cond := Cond.methodLink RX7 1 objectInit :: wB602
def wB600 : List Cond := Cond.code yX7_init cX7_init 2 none :: wB601
def wB599 : List Cond := Cond.code yX6_textLength cX6_textLength 1 (some .int) :: wB600
def wB598 : List Cond := Cond.code yX6_savedStates cX6_savedStates 1 (some .int) :: wB599
def wB597 : List Cond := Cond.selects RX4 yX4_countInversions yX4_countInversions :: wB598
def wB596 : List Cond := Cond.instanceMethod yX4_countInversions :: wB597
def wB595 : List Cond := Cond.methodLink RX6 280 yX4_countInversions :: wB596
def wB594 : List Cond := Cond.code yX6_inversions cX6_inversions 1 (some .int) :: wB595
def wB593 : List Cond := Cond.fieldLink RX6 277 "CommitWaitStore$State" "unsoundUses" "I" :: wB594
def wB592 : List Cond := Cond.code yX6_unsoundUses cX6_unsoundUses 1 (some .int) :: wB593
def wB591 : List Cond := Cond.selects RX4 yX4_sumOfWaits yX4_sumOfWaits :: wB592
def wB590 : List Cond := Cond.instanceMethod yX4_sumOfWaits :: wB591
def wB589 : List Cond := Cond.methodLink RX6 274 yX4_sumOfWaits :: wB590
def wB588 : List Cond := Cond.code yX6_totalWait cX6_totalWait 1 (some .int) :: wB589
def wB587 : List Cond := Cond.selects RX4 yX4_countWithStatus yX4_countWithStatus :: wB588
def wB586 : List Cond := Cond.instanceMethod yX4_countWithStatus :: wB587
def wB585 : List Cond := Cond.methodLink RX6 271 yX4_countWithStatus :: wB586
def wB584 : List Cond := Cond.code yX6_countInState cX6_countInState 2 (some .int) :: wB585
def wB583 : List Cond := Cond.code yX6_ticksUntilSafe cX6_ticksUntilSafe 3 (some .int) :: wB584
def wB582 : List Cond := Cond.selects RX2 yX2_ticksUntilSafeAt yX2_ticksUntilSafeAt :: wB583
def wB581 : List Cond := Cond.instanceMethod yX2_ticksUntilSafeAt :: wB582
def wB580 : List Cond := Cond.methodLink RX6 268 yX2_ticksUntilSafeAt :: wB581
def wB579 : List Cond := Cond.code yX6_readFloor cX6_readFloor 1 (some .int) :: wB580
def wB578 : List Cond := Cond.code yX6_safeTime cX6_safeTime 1 (some .int) :: wB579
def wB577 : List Cond := Cond.code yX6_readerMark cX6_readerMark 2 (some .int) :: wB578
def wB576 : List Cond := Cond.methodLink RX6 265 yX4_greatestReaderTimestamp :: wB577
def wB575 : List Cond := Cond.selects RX4 yX4_findWaitingWriter yX4_findWaitingWriter :: wB576
def wB574 : List Cond := Cond.instanceMethod yX4_findWaitingWriter :: wB575
def wB573 : List Cond := Cond.methodLink RX6 262 yX4_findWaitingWriter :: wB574
def wB572 : List Cond := Cond.code yX6_waitingWriter cX6_waitingWriter 2 (some .int) :: wB573
def wB571 : List Cond := Cond.code yX6_replayedValueAt cX6_replayedValueAt 3 (some .int) :: wB572
def wB570 : List Cond := Cond.selects RX4 yX4_replay yX4_replay :: wB571
def wB569 : List Cond := Cond.instanceMethod yX4_replay :: wB570
def wB568 : List Cond := Cond.methodLink RX6 259 yX4_replay :: wB569
def wB567 : List Cond := Cond.code yX6_valueAt cX6_valueAt 3 (some .int) :: wB568
def wB566 : List Cond := Cond.code yX6_versionTimestamp cX6_versionTimestamp 3 (some .int) :: wB567
def wB565 : List Cond := Cond.fieldLink RX6 252 "CommitWaitStore$Versions" "count" "[I" :: wB566
def wB564 : List Cond := Cond.code yX6_versions cX6_versions 2 (some .int) :: wB565
def wB563 : List Cond := Cond.code yX6_ticksToCommit cX6_ticksToCommit 3 (some .int) :: wB564
def wB562 : List Cond := Cond.methodLink RX6 249 yX2_ticksUntilCommitted :: wB563
def wB561 : List Cond := Cond.code yX6_ifCommitted cX6_ifCommitted 2 (some .int) :: wB562
def wB560 : List Cond := Cond.code yX6_recordedTimestamp cX6_recordedTimestamp 4 (some .int) :: wB561
def wB559 : List Cond := Cond.methodLink RX6 246 yX5_timestampOf :: wB560
def wB558 : List Cond := Cond.methodLink RX6 243 yX4_recordedVersion :: wB559
def wB557 : List Cond := Cond.methodLink RX6 240 yX4_bufferOf :: wB558
def wB556 : List Cond := Cond.code yX6_bufferedValue cX6_bufferedValue 3 (some .int) :: wB557
def wB555 : List Cond := Cond.fieldLink RX6 237 "CommitWaitStore$Transactions" "commitTime" "[I" :: wB556
def wB554 : List Cond := Cond.code yX6_commitTime cX6_commitTime 2 (some .int) :: wB555
def wB553 : List Cond := Cond.fieldLink RX6 234 "CommitWaitStore$Transactions" "requestTime" "[I" :: wB554
def wB552 : List Cond := Cond.code yX6_requestTime cX6_requestTime 2 (some .int) :: wB553
def wB551 : List Cond := Cond.fieldLink RX6 231 "CommitWaitStore$Transactions" "timestamp" "[I" :: wB552
def wB550 : List Cond := Cond.code yX6_timestamp cX6_timestamp 2 (some .int) :: wB551
def wB549 : List Cond := Cond.fieldLink RX6 228 "CommitWaitStore$Transactions" "status" "[I" :: wB550
def wB548 : List Cond := Cond.code yX6_state cX6_state 2 (some .int) :: wB549
def wB547 : List Cond := Cond.code yX6_transactions cX6_transactions 1 (some .int) :: wB548
def wB546 : List Cond := Cond.code yX6_nextTimestamp cX6_nextTimestamp 2 (some .int) :: wB547
def wB545 : List Cond := Cond.methodLink RX6 222 yX2_nextTimestampOf :: wB546
def wB544 : List Cond := Cond.code yX6_isSound cX6_isSound 2 (some .boolean) :: wB545
def wB543 : List Cond := Cond.methodLink RX6 219 yX1_isSoundAt :: wB544
def wB542 : List Cond := Cond.code yX6_latest cX6_latest 2 (some .int) :: wB543
def wB541 : List Cond := Cond.methodLink RX6 216 yX1_latestAt :: wB542
def wB540 : List Cond := Cond.code yX6_earliest cX6_earliest 2 (some .int) :: wB541
def wB539 : List Cond := Cond.methodLink RX6 213 yX1_earliestAt :: wB540
def wB538 : List Cond := Cond.methodLink RX6 210 yX1_offsetAt :: wB539
def wB537 : List Cond := Cond.code yX6_reading cX6_reading 2 (some .int) :: wB538
def wB536 : List Cond := Cond.code yX6_trueTime cX6_trueTime 1 (some .int) :: wB537
def wB535 : List Cond := Cond.code yX6_restore cX6_restore 2 (some .int) :: wB536
def wB534 : List Cond := Cond.code yX6_save cX6_save 2 (some .int) :: wB535
def wB533 : List Cond := Cond.methodLink RX6 205 yX2_copyFrom :: wB534
def wB532 : List Cond := Cond.selects RX6 yX6_requireSlot yX6_requireSlot :: wB533
def wB531 : List Cond := Cond.instanceMethod yX6_requireSlot :: wB532
def wB530 : List Cond := Cond.methodLink RX6 202 yX6_requireSlot :: wB531
def wB529 : List Cond := Cond.code yX6_requireSlot cX6_requireSlot 2 none :: wB530
def wB528 : List Cond := Cond.code yX6_undo cX6_undo 1 (some .int) :: wB529
def wB527 : List Cond := Cond.selects RX0 yX0_popInto yX0_popInto :: wB528
def wB526 : List Cond := Cond.instanceMethod yX0_popInto :: wB527
def wB525 : List Cond := Cond.methodLink RX6 199 yX0_popInto :: wB526
def wB524 : List Cond := Cond.fieldLink RX6 194 "CommitWaitStore$SavedStates" "count" "I" :: wB525
def wB523 : List Cond := Cond.code yX6_runText cX6_runText 2 (some .int) :: wB524
def wB522 : List Cond := Cond.selects RX6 yX6_executeCommand yX6_executeCommand :: wB523
def wB521 : List Cond := Cond.instanceMethod yX6_executeCommand :: wB522
def wB520 : List Cond := Cond.methodLink RX6 172 yX6_executeCommand :: wB521
def wB519 : List Cond := Cond.selects RX3 yX3_readNextCommand yX3_readNextCommand :: wB520
def wB518 : List Cond := Cond.instanceMethod yX3_readNextCommand :: wB519
def wB517 : List Cond := Cond.methodLink RX6 169 yX3_readNextCommand :: wB518
def wB516 : List Cond := Cond.methodLink RX6 166 yX3_rewind :: wB517
def wB515 : List Cond := Cond.code yX6_executeCommand cX6_executeCommand 2 (some .boolean) :: wB516
def wB514 : List Cond := Cond.selects RX6 yX6_canExecute yX6_canExecute :: wB515
def wB513 : List Cond := Cond.instanceMethod yX6_canExecute :: wB514
def wB512 : List Cond := Cond.methodLink RX6 179 yX6_canExecute :: wB513
def wB511 : List Cond := Cond.fieldLink RX6 175 "CommitWaitStore$Text" "arguments" "[I" :: wB512
def wB510 : List Cond := Cond.fieldLink RX6 182 "CommitWaitStore$Text" "letter" "I" :: wB511
def wB509 : List Cond := Cond.code yX6_canExecute cX6_canExecute 2 (some .boolean) :: wB510
def wB508 : List Cond := Cond.code yX6_errorPosition cX6_errorPosition 1 (some .int) :: wB509
def wB507 : List Cond := Cond.selects RX3 yX3_findError yX3_findError :: wB508
def wB506 : List Cond := Cond.instanceMethod yX3_findError :: wB507
def wB505 : List Cond := Cond.methodLink RX6 161 yX3_findError :: wB506
def wB504 : List Cond := Cond.code yX6_clearText cX6_clearText 2 (some .int) :: wB505
def wB503 : List Cond := Cond.selects RX3 yX3_append yX3_append :: wB504
def wB502 : List Cond := Cond.instanceMethod yX3_append :: wB503
def wB501 : List Cond := Cond.methodLink RX6 154 yX3_append :: wB502
def wB500 : List Cond := Cond.selects RX3 yX3_isFull yX3_isFull :: wB501
def wB499 : List Cond := Cond.instanceMethod yX3_isFull :: wB500
def wB498 : List Cond := Cond.methodLink RX6 149 yX3_isFull :: wB499
def wB497 : List Cond := Cond.fieldLink RX6 158 "CommitWaitStore$Text" "length" "I" :: wB498
def wB496 : List Cond := Cond.code yX6_appendText cX6_appendText 2 (some .int) :: wB497
def wB495 : List Cond := Cond.code yX6_snapshotRead cX6_snapshotRead 3 (some .int) :: wB496
def wB494 : List Cond := Cond.selects RX5 yX5_valueOf yX5_valueOf :: wB495
def wB493 : List Cond := Cond.instanceMethod yX5_valueOf :: wB494
def wB492 : List Cond := Cond.methodLink RX6 144 yX5_valueOf :: wB493
def wB491 : List Cond := Cond.selects RX2 yX2_safeTimeNow yX2_safeTimeNow :: wB492
def wB490 : List Cond := Cond.instanceMethod yX2_safeTimeNow :: wB491
def wB489 : List Cond := Cond.methodLink RX6 126 yX2_safeTimeNow :: wB490
def wB488 : List Cond := Cond.selects RX6 yX6_requireNotNegative yX6_requireNotNegative :: wB489
def wB487 : List Cond := Cond.instanceMethod yX6_requireNotNegative :: wB488
def wB486 : List Cond := Cond.methodLink RX6 123 yX6_requireNotNegative :: wB487
def wB485 : List Cond := Cond.fieldLink RX6 140 "CommitWaitStore$State" "versions" "LCommitWaitStore$Versions;" :: wB486
def wB484 : List Cond := Cond.methodLink RX6 135 Lib.Math.max.name :: wB485
def wB483 : List Cond := Cond.fieldLink RX6 132 "CommitWaitStore$State" "readFloor" "I" :: wB484
def wB482 : List Cond := Cond.code yX6_requireNotNegative cX6_requireNotNegative 2 none :: wB483
def wB481 : List Cond := Cond.code yX6_setUncertainty cX6_setUncertainty 4 (some .int) :: wB482
def wB480 : List Cond := Cond.methodLink RX6 120 yX1_uncertaintyAt :: wB481
def wB479 : List Cond := Cond.selects RX1 yX1_changeUncertainty yX1_changeUncertainty :: wB480
def wB478 : List Cond := Cond.instanceMethod yX1_changeUncertainty :: wB479
def wB477 : List Cond := Cond.methodLink RX6 117 yX1_changeUncertainty :: wB478
def wB476 : List Cond := Cond.code yX6_setDrift cX6_setDrift 3 (some .int) :: wB477
def wB475 : List Cond := Cond.selects RX1 yX1_changeDrift yX1_changeDrift :: wB476
def wB474 : List Cond := Cond.instanceMethod yX1_changeDrift :: wB475
def wB473 : List Cond := Cond.methodLink RX6 112 yX1_changeDrift :: wB474
def wB472 : List Cond := Cond.fieldLink RX6 108 "CommitWaitStore$State" "trueTime" "I" :: wB473
def wB471 : List Cond := Cond.fieldLink RX6 104 "CommitWaitStore$State" "servers" "[LCommitWaitStore$Server;" :: wB472
def wB470 : List Cond := Cond.code yX6_synchronize cX6_synchronize 3 (some .int) :: wB471
def wB469 : List Cond := Cond.selects RX2 yX2_synchronizeClock yX2_synchronizeClock :: wB470
def wB468 : List Cond := Cond.instanceMethod yX2_synchronizeClock :: wB469
def wB467 : List Cond := Cond.methodLink RX6 101 yX2_synchronizeClock :: wB468
def wB466 : List Cond := Cond.code yX6_advance cX6_advance 2 (some .int) :: wB467
def wB465 : List Cond := Cond.selects RX2 yX2_advanceBy yX2_advanceBy :: wB466
def wB464 : List Cond := Cond.instanceMethod yX2_advanceBy :: wB465
def wB463 : List Cond := Cond.methodLink RX6 98 yX2_advanceBy :: wB464
def wB462 : List Cond := Cond.selects RX2 yX2_canAdvance yX2_canAdvance :: wB463
def wB461 : List Cond := Cond.instanceMethod yX2_canAdvance :: wB462
def wB460 : List Cond := Cond.methodLink RX6 92 yX2_canAdvance :: wB461
def wB459 : List Cond := Cond.code yX6_abort cX6_abort 2 (some .int) :: wB460
def wB458 : List Cond := Cond.methodLink RX6 89 yX2_makeAborted :: wB459
def wB457 : List Cond := Cond.code yX6_commit cX6_commit 3 (some .int) :: wB458
def wB456 : List Cond := Cond.selects RX2 yX2_carryOut yX2_carryOut :: wB457
def wB455 : List Cond := Cond.instanceMethod yX2_carryOut :: wB456
def wB454 : List Cond := Cond.methodLink RX6 85 yX2_carryOut :: wB455
def wB453 : List Cond := Cond.selects RX2 yX2_commitOutcome yX2_commitOutcome :: wB454
def wB452 : List Cond := Cond.instanceMethod yX2_commitOutcome :: wB453
def wB451 : List Cond := Cond.methodLink RX6 82 yX2_commitOutcome :: wB452
def wB450 : List Cond := Cond.code yX6_write cX6_write 4 (some .int) :: wB451
def wB449 : List Cond := Cond.selects RX2 yX2_writeKey yX2_writeKey :: wB450
def wB448 : List Cond := Cond.instanceMethod yX2_writeKey :: wB449
def wB447 : List Cond := Cond.methodLink RX6 78 yX2_writeKey :: wB448
def wB446 : List Cond := Cond.selects RX6 yX6_requireRange yX6_requireRange :: wB447
def wB445 : List Cond := Cond.instanceMethod yX6_requireRange :: wB446
def wB444 : List Cond := Cond.methodLink RX6 74 yX6_requireRange :: wB445
def wB443 : List Cond := Cond.initialized "java/lang/IllegalArgumentException" :: wB444
def wB442 : List Cond := Cond.classLink RX6 291 "java/lang/IllegalArgumentException" :: wB443
def wB441 : List Cond := Cond.code yX6_requireRange cX6_requireRange 4 none :: wB442
def wB440 : List Cond := Cond.code yX6_read cX6_read 3 (some .int) :: wB441
def wB439 : List Cond := Cond.selects RX2 yX2_readKey yX2_readKey :: wB440
def wB438 : List Cond := Cond.instanceMethod yX2_readKey :: wB439
def wB437 : List Cond := Cond.methodLink RX6 70 yX2_readKey :: wB438
def wB436 : List Cond := Cond.selects RX6 yX6_requireOpen yX6_requireOpen :: wB437
def wB435 : List Cond := Cond.instanceMethod yX6_requireOpen :: wB436
def wB434 : List Cond := Cond.methodLink RX6 67 yX6_requireOpen :: wB435
def wB433 : List Cond := Cond.selects RX6 yX6_requireKey yX6_requireKey :: wB434
def wB432 : List Cond := Cond.instanceMethod yX6_requireKey :: wB433
def wB431 : List Cond := Cond.methodLink RX6 64 yX6_requireKey :: wB432
def wB430 : List Cond := Cond.selects RX6 yX6_requireTransaction yX6_requireTransaction :: wB431
def wB429 : List Cond := Cond.instanceMethod yX6_requireTransaction :: wB430
def wB428 : List Cond := Cond.methodLink RX6 61 yX6_requireTransaction :: wB429
def wB427 : List Cond := Cond.selects RX4 yX4_isOpen yX4_isOpen :: wB428
def wB426 : List Cond := Cond.instanceMethod yX4_isOpen :: wB427
def wB425 : List Cond := Cond.methodLink RX6 189 yX4_isOpen :: wB426
def wB424 : List Cond := Cond.code yX6_requireOpen cX6_requireOpen 2 none :: wB425
def wB423 : List Cond := Cond.code yX6_requireKey cX6_requireKey 2 none :: wB424
def wB422 : List Cond := Cond.fieldLink RX6 225 "CommitWaitStore$Transactions" "begun" "I" :: wB423
def wB421 : List Cond := Cond.fieldLink RX6 185 "CommitWaitStore$State" "transactions" "LCommitWaitStore$Transactions;" :: wB422
def wB420 : List Cond := Cond.code yX6_requireTransaction cX6_requireTransaction 2 none :: wB421
def wB419 : List Cond := Cond.code yX6_begin cX6_begin 2 (some .int) :: wB420
def wB418 : List Cond := Cond.selects RX2 yX2_beginAt yX2_beginAt :: wB419
def wB417 : List Cond := Cond.instanceMethod yX2_beginAt :: wB418
def wB416 : List Cond := Cond.methodLink RX6 57 yX2_beginAt :: wB417
def wB415 : List Cond := Cond.selects RX0 yX0_push yX0_push :: wB416
def wB414 : List Cond := Cond.instanceMethod yX0_push :: wB415
def wB413 : List Cond := Cond.methodLink RX6 53 yX0_push :: wB414
def wB412 : List Cond := Cond.selects RX2 yX2_canBegin yX2_canBegin :: wB413
def wB411 : List Cond := Cond.instanceMethod yX2_canBegin :: wB412
def wB410 : List Cond := Cond.methodLink RX6 42 yX2_canBegin :: wB411
def wB409 : List Cond := Cond.initialized RX6 :: wB410
def wB408 : List Cond := Cond.selects RX6 yX6_requireServer yX6_requireServer :: wB409
def wB407 : List Cond := Cond.instanceMethod yX6_requireServer :: wB408
def wB406 : List Cond := Cond.methodLink RX6 38 yX6_requireServer :: wB407
def wB405 : List Cond := Cond.initialized "java/lang/IllegalStateException" :: wB406
def wB404 : List Cond := Cond.classLink RX6 46 "java/lang/IllegalStateException" :: wB405
def wB403 : List Cond := Cond.initialized "java/lang/IndexOutOfBoundsException" :: wB404
def wB402 : List Cond := Cond.classLink RX6 254 "java/lang/IndexOutOfBoundsException" :: wB403
def wB401 : List Cond := Cond.code yX6_requireServer cX6_requireServer 2 none :: wB402
def wB400 : List Cond := Cond.code yX6_init cX6_init 2 none :: wB401
def wB399 : List Cond := Cond.instanceMethod yX3_init :: wB400
def wB398 : List Cond := Cond.instanceMethod yX0_init :: wB399
def wB397 : List Cond := Cond.methodLink RX6 18 yX0_init :: wB398
def wB396 : List Cond := Cond.methodLink RX6 9 yX2_init :: wB397
def wB395 : List Cond := Cond.fieldLink RX6 34 "CommitWaitStore" "text" "LCommitWaitStore$Text;" :: wB396
def wB394 : List Cond := Cond.instantiable RX3 5 :: wB395
def wB393 : List Cond := Cond.classLink RX6 31 RX3 :: wB394
def wB392 : List Cond := Cond.fieldLink RX6 27 "CommitWaitStore" "slotHoldsState" "[Z" :: wB393
def wB391 : List Cond := Cond.arrayClass .boolean :: wB392
def wB390 : List Cond := Cond.fieldLink RX6 23 "CommitWaitStore" "slots" "[LCommitWaitStore$State;" :: wB391
def wB389 : List Cond := Cond.fieldLink RX6 19 "CommitWaitStore" "saved" "LCommitWaitStore$SavedStates;" :: wB390
def wB388 : List Cond := Cond.initialized RX0 :: wB389
def wB387 : List Cond := Cond.instantiable RX0 3 :: wB388
def wB386 : List Cond := Cond.classLink RX6 16 RX0 :: wB387
def wB385 : List Cond := Cond.fieldLink RX6 10 "CommitWaitStore" "state" "LCommitWaitStore$State;" :: wB386
def wB384 : List Cond := Cond.classLink RX6 7 RX2 :: wB385
def wB383 : List Cond := Cond.methodLink RX6 1 objectInit :: wB384
def wB382 : List Cond := Cond.methodLink RX5 35 yX5_valueOfVersion :: wB383
def wB381 : List Cond := Cond.methodLink RX5 31 yX5_timestampOf :: wB382
def wB380 : List Cond := Cond.methodLink RX5 27 yX5_newest :: wB381
def wB379 : List Cond := Cond.code yX5_valueOf cX5_valueOf 4 (some .int) :: wB380
def wB378 : List Cond := Cond.selects RX4 yX4_areInverted yX4_areInverted :: wB379
def wB377 : List Cond := Cond.instanceMethod yX4_areInverted :: wB378
def wB376 : List Cond := Cond.methodLink RX4 72 yX4_areInverted :: wB377
def wB375 : List Cond := Cond.code yX4_countInversions cX4_countInversions 4 (some .int) :: wB376
def wB374 : List Cond := Cond.code yX4_areInverted cX4_areInverted 3 (some .boolean) :: wB375
def wB373 : List Cond := Cond.code yX4_sumOfWaits cX4_sumOfWaits 3 (some .int) :: wB374
def wB372 : List Cond := Cond.code yX4_countWithStatus cX4_countWithStatus 4 (some .int) :: wB373
def wB371 : List Cond := Cond.methodLink RX4 69 yX4_bufferOf :: wB372
def wB370 : List Cond := Cond.code yX4_replay cX4_replay 6 (some .int) :: wB371
def wB369 : List Cond := Cond.code yX4_findWaitingWriter cX4_findWaitingWriter 3 (some .int) :: wB370
def wB368 : List Cond := Cond.code yX4_isOpen cX4_isOpen 2 (some .boolean) :: wB369
def wB367 : List Cond := Cond.code yX3_readNextCommand cX3_readNextCommand 1 (some .boolean) :: wB368
def wB366 : List Cond := Cond.code yX3_findError cX3_findError 2 (some .int) :: wB367
def wB365 : List Cond := Cond.selects RX3 yX3_readCommand yX3_readCommand :: wB366
def wB364 : List Cond := Cond.instanceMethod yX3_readCommand :: wB365
def wB363 : List Cond := Cond.methodLink RX3 29 yX3_readCommand :: wB364
def wB362 : List Cond := Cond.selects RX3 yX3_rewind yX3_rewind :: wB363
def wB361 : List Cond := Cond.instanceMethod yX3_rewind :: wB362
def wB360 : List Cond := Cond.methodLink RX3 26 yX3_rewind :: wB361
def wB359 : List Cond := Cond.code yX3_readCommand cX3_readCommand 1 (some .boolean) :: wB360
def wB358 : List Cond := Cond.selects RX3 yX3_readArguments yX3_readArguments :: wB359
def wB357 : List Cond := Cond.instanceMethod yX3_readArguments :: wB358
def wB356 : List Cond := Cond.methodLink RX3 48 yX3_readArguments :: wB357
def wB355 : List Cond := Cond.selects RJ0 yJ0_indexOf_0f7a4 yJ0_indexOf_0f7a4 :: wB356
def wB354 : List Cond := Cond.instanceMethod yJ0_indexOf_0f7a4 :: wB355
def wB353 : List Cond := Cond.methodLink RX3 39 yJ0_indexOf_0f7a4 :: wB354
def wB352 : List Cond := Cond.code yX3_readArguments cX3_readArguments 1 (some .boolean) :: wB353
def wB351 : List Cond := Cond.selects RX3 yX3_readTransactionAndKey yX3_readTransactionAndKey :: wB352
def wB350 : List Cond := Cond.instanceMethod yX3_readTransactionAndKey :: wB351
def wB349 : List Cond := Cond.methodLink RX3 58 yX3_readTransactionAndKey :: wB350
def wB348 : List Cond := Cond.selects RX3 yX3_readOffset yX3_readOffset :: wB349
def wB347 : List Cond := Cond.instanceMethod yX3_readOffset :: wB348
def wB346 : List Cond := Cond.methodLink RX3 55 yX3_readOffset :: wB347
def wB345 : List Cond := Cond.fieldLink RX3 45 "CommitWaitStore$Text" "letter" "I" :: wB346
def wB344 : List Cond := Cond.code yX3_readTransactionAndKey cX3_readTransactionAndKey 1 (some .boolean) :: wB345
def wB343 : List Cond := Cond.selects RX3 yX3_readNumber yX3_readNumber :: wB344
def wB342 : List Cond := Cond.instanceMethod yX3_readNumber :: wB343
def wB341 : List Cond := Cond.methodLink RX3 51 yX3_readNumber :: wB342
def wB340 : List Cond := Cond.selects RX3 yX3_take yX3_take :: wB341
def wB339 : List Cond := Cond.instanceMethod yX3_take :: wB340
def wB338 : List Cond := Cond.methodLink RX3 33 yX3_take :: wB339
def wB337 : List Cond := Cond.code yX3_readOffset cX3_readOffset 1 (some .boolean) :: wB338
def wB336 : List Cond := Cond.code yX3_take cX3_take 2 (some .boolean) :: wB337
def wB335 : List Cond := Cond.initialized RX3 :: wB336
def wB334 : List Cond := Cond.selects RX3 yX3_digitHere yX3_digitHere :: wB335
def wB333 : List Cond := Cond.instanceMethod yX3_digitHere :: wB334
def wB332 : List Cond := Cond.methodLink RX3 61 yX3_digitHere :: wB333
def wB331 : List Cond := Cond.code yX3_readNumber cX3_readNumber 6 (some .boolean) :: wB332
def wB330 : List Cond := Cond.code yX3_digitHere cX3_digitHere 1 (some .int) :: wB331
def wB329 : List Cond := Cond.code yJ0_indexOf_0f7a4 cJ0_indexOf_0f7a4 2 (some .int) :: wB330
def wB328 : List Cond := Cond.selects RJ0 yJ0_indexOf_7cf53 yJ0_indexOf_7cf53 :: wB329
def wB327 : List Cond := Cond.instanceMethod yJ0_indexOf_7cf53 :: wB328
def wB326 : List Cond := Cond.methodLink RJ0 633 yJ0_indexOf_7cf53 :: wB327
def wB325 : List Cond := Cond.code yJ0_indexOf_7cf53 cJ0_indexOf_7cf53 3 (some .int) :: wB326
def wB324 : List Cond := Cond.static yJ2_indexOf_4cfef :: wB325
def wB323 : List Cond := Cond.methodLink RJ0 640 yJ2_indexOf_4cfef :: wB324
def wB322 : List Cond := Cond.static yJ1_indexOf_4cfef :: wB323
def wB321 : List Cond := Cond.methodLink RJ0 637 yJ1_indexOf_4cfef :: wB322
def wB320 : List Cond := Cond.selects RJ0 yJ0_length_8abf5 yJ0_length_8abf5 :: wB321
def wB319 : List Cond := Cond.instanceMethod yJ0_length_8abf5 :: wB320
def wB318 : List Cond := Cond.methodLink RJ0 505 yJ0_length_8abf5 :: wB319
def wB317 : List Cond := Cond.selects RJ0 yJ0_isLatin1_aae02 yJ0_isLatin1_aae02 :: wB318
def wB316 : List Cond := Cond.instanceMethod yJ0_isLatin1_aae02 :: wB317
def wB315 : List Cond := Cond.methodLink RJ0 492 yJ0_isLatin1_aae02 :: wB316
def wB314 : List Cond := Cond.code yJ2_indexOf_4cfef cJ2_indexOf_4cfef 4 (some .int) :: wB315
def wB313 : List Cond := Cond.static yJ2_indexOfSupplementary_4cfef :: wB314
def wB312 : List Cond := Cond.methodLink RJ2 232 yJ2_indexOfSupplementary_4cfef :: wB313
def wB311 : List Cond := Cond.static yJ2_indexOfChar_4cfef :: wB312
def wB310 : List Cond := Cond.methodLink RJ2 228 yJ2_indexOfChar_4cfef :: wB311
def wB309 : List Cond := Cond.constant RJ2 227 (65536) :: wB310
def wB308 : List Cond := Cond.methodLink RJ2 183 Lib.Math.min.name :: wB309
def wB307 : List Cond := Cond.methodLink RJ2 224 Lib.Math.max.name :: wB308
def wB306 : List Cond := Cond.code yJ2_indexOfSupplementary_4cfef cJ2_indexOfSupplementary_4cfef 7 (some .int) :: wB307
def wB305 : List Cond := Cond.static yJ11_lowSurrogate_5068e :: wB306
def wB304 : List Cond := Cond.methodLink RJ2 161 yJ11_lowSurrogate_5068e :: wB305
def wB303 : List Cond := Cond.static yJ11_highSurrogate_5068e :: wB304
def wB302 : List Cond := Cond.methodLink RJ2 157 yJ11_highSurrogate_5068e :: wB303
def wB301 : List Cond := Cond.initialized RJ11 :: wB302
def wB300 : List Cond := Cond.static yJ11_isValidCodePoint_9a6ad :: wB301
def wB299 : List Cond := Cond.methodLink RJ2 164 yJ11_isValidCodePoint_9a6ad :: wB300
def wB298 : List Cond := Cond.constant RJ11 76 (56320) :: wB299
def wB297 : List Cond := Cond.code yJ11_lowSurrogate_5068e cJ11_lowSurrogate_5068e 1 (some .char) :: wB298
def wB296 : List Cond := Cond.constant RJ11 110 (55232) :: wB297
def wB295 : List Cond := Cond.code yJ11_highSurrogate_5068e cJ11_highSurrogate_5068e 1 (some .char) :: wB296
def wB294 : List Cond := Cond.code yJ11_isValidCodePoint_9a6ad cJ11_isValidCodePoint_9a6ad 2 (some .boolean) :: wB295
def wB293 : List Cond := Cond.code yJ2_indexOfChar_4cfef cJ2_indexOfChar_4cfef 4 (some .int) :: wB294
def wB292 : List Cond := Cond.static yJ2_indexOfCharUnsafe_4cfef :: wB293
def wB291 : List Cond := Cond.methodLink RJ2 244 yJ2_indexOfCharUnsafe_4cfef :: wB292
def wB290 : List Cond := Cond.static yJ2_checkBoundsBeginEnd_d044e :: wB291
def wB289 : List Cond := Cond.methodLink RJ2 96 yJ2_checkBoundsBeginEnd_d044e :: wB290
def wB288 : List Cond := Cond.static yJ2_getChar_3b067 :: wB289
def wB287 : List Cond := Cond.methodLink RJ2 71 yJ2_getChar_3b067 :: wB288
def wB286 : List Cond := Cond.code yJ2_indexOfCharUnsafe_4cfef cJ2_indexOfCharUnsafe_4cfef 5 (some .int) :: wB287
def wB285 : List Cond := Cond.fieldLink RJ2 63 "java/lang/StringUTF16" "LO_BYTE_SHIFT" "I" :: wB286
def wB284 : List Cond := Cond.fieldLink RJ2 59 "java/lang/StringUTF16" "HI_BYTE_SHIFT" "I" :: wB285
def wB283 : List Cond := Cond.fieldLink RJ2 44 "java/lang/StringUTF16" "$assertionsDisabled" "Z" :: wB284
def wB282 : List Cond := Cond.code yJ2_getChar_3b067 cJ2_getChar_3b067 2 (some .char) :: wB283
def wB281 : List Cond := Cond.static yJ0_checkBoundsBeginEnd_23922 :: wB282
def wB280 : List Cond := Cond.methodLink RJ2 241 yJ0_checkBoundsBeginEnd_23922 :: wB281
def wB279 : List Cond := Cond.initialized RJ2 :: wB280
def wB278 : List Cond := Cond.static yJ2_length_9d52b :: wB279
def wB277 : List Cond := Cond.methodLink RJ2 48 yJ2_length_9d52b :: wB278
def wB276 : List Cond := Cond.code yJ2_checkBoundsBeginEnd_d044e cJ2_checkBoundsBeginEnd_d044e 3 none :: wB277
def wB275 : List Cond := Cond.initialized RJ3 :: wB276
def wB274 : List Cond := Cond.static yJ3_checkFromToIndex_8c36e :: wB275
def wB273 : List Cond := Cond.methodLink RJ0 1062 yJ3_checkFromToIndex_8c36e :: wB274
def wB272 : List Cond := Cond.fieldLink RJ0 1053 "jdk/internal/util/Preconditions" "SIOOBE_FORMATTER" "Ljava/util/function/BiFunction;" :: wB273
def wB271 : List Cond := Cond.code yJ0_checkBoundsBeginEnd_23922 cJ0_checkBoundsBeginEnd_23922 3 none :: wB272
def wB270 : List Cond := Cond.code yJ3_checkFromToIndex_8c36e cJ3_checkFromToIndex_8c36e 4 (some .int) :: wB271
def wB269 : List Cond := Cond.code yJ2_length_9d52b cJ2_length_9d52b 1 (some .int) :: wB270
def wB268 : List Cond := Cond.static yJ1_indexOfChar_4cfef :: wB269
def wB267 : List Cond := Cond.methodLink RJ1 95 yJ1_indexOfChar_4cfef :: wB268
def wB266 : List Cond := Cond.initialized RJ1 :: wB267
def wB265 : List Cond := Cond.static yJ1_canEncode_9a6ad :: wB266
def wB264 : List Cond := Cond.methodLink RJ1 88 yJ1_canEncode_9a6ad :: wB265
def wB263 : List Cond := Cond.methodLink RJ1 38 Lib.Math.min.name :: wB264
def wB262 : List Cond := Cond.methodLink RJ1 92 Lib.Math.max.name :: wB263
def wB261 : List Cond := Cond.code yJ1_indexOf_4cfef cJ1_indexOf_4cfef 4 (some .int) :: wB262
def wB260 : List Cond := Cond.code yJ1_indexOfChar_4cfef cJ1_indexOfChar_4cfef 6 (some .int) :: wB261
def wB259 : List Cond := Cond.code yJ1_canEncode_9a6ad cJ1_canEncode_9a6ad 1 (some .boolean) :: wB260
def wB258 : List Cond := Cond.initialized RJ0 :: wB259
def wB257 : List Cond := Cond.selects RJ0 yJ0_coder_7d493 yJ0_coder_7d493 :: wB258
def wB256 : List Cond := Cond.instanceMethod yJ0_coder_7d493 :: wB257
def wB255 : List Cond := Cond.methodLink RJ0 335 yJ0_coder_7d493 :: wB256
def wB254 : List Cond := Cond.fieldLink RJ0 9 "java/lang/String" "value" "[B" :: wB255
def wB253 : List Cond := Cond.code yJ0_length_8abf5 cJ0_length_8abf5 1 (some .int) :: wB254
def wB252 : List Cond := Cond.code yJ0_coder_7d493 cJ0_coder_7d493 1 (some .byte) :: wB253
def wB251 : List Cond := Cond.fieldLink RJ0 15 "java/lang/String" "coder" "B" :: wB252
def wB250 : List Cond := Cond.fieldLink RJ0 38 "java/lang/String" "COMPACT_STRINGS" "Z" :: wB251
def wB249 : List Cond := Cond.code yJ0_isLatin1_aae02 cJ0_isLatin1_aae02 1 (some .boolean) :: wB250
def wB248 : List Cond := Cond.fieldLink RX3 23 "CommitWaitStore$Text" "position" "I" :: wB249
def wB247 : List Cond := Cond.code yX3_rewind cX3_rewind 1 none :: wB248
def wB246 : List Cond := Cond.code yX3_append cX3_append 2 none :: wB247
def wB245 : List Cond := Cond.fieldLink RX3 19 "CommitWaitStore$Text" "length" "I" :: wB246
def wB244 : List Cond := Cond.code yX3_isFull cX3_isFull 1 (some .boolean) :: wB245
def wB243 : List Cond := Cond.fieldLink RX3 15 "CommitWaitStore$Text" "characters" "[C" :: wB244
def wB242 : List Cond := Cond.arrayClass .char :: wB243
def wB241 : List Cond := Cond.fieldLink RX3 9 "CommitWaitStore$Text" "arguments" "[I" :: wB242
def wB240 : List Cond := Cond.methodLink RX3 3 objectInit :: wB241
def wB239 : List Cond := Cond.code yX3_init cX3_init 1 none :: wB240
def wB238 : List Cond := Cond.code yX2_ticksUntilSafeAt cX2_ticksUntilSafeAt 5 (some .int) :: wB239
def wB237 : List Cond := Cond.selects RX1 yX1_ticksUntilLatestPasses yX1_ticksUntilLatestPasses :: wB238
def wB236 : List Cond := Cond.instanceMethod yX1_ticksUntilLatestPasses :: wB237
def wB235 : List Cond := Cond.methodLink RX2 166 yX1_ticksUntilLatestPasses :: wB236
def wB234 : List Cond := Cond.code yX2_safeTimeNow cX2_safeTimeNow 3 (some .int) :: wB235
def wB233 : List Cond := Cond.methodLink RX2 163 Lib.Math.min.name :: wB234
def wB232 : List Cond := Cond.selects RX1 yX1_setOffset yX1_setOffset :: wB233
def wB231 : List Cond := Cond.instanceMethod yX1_setOffset :: wB232
def wB230 : List Cond := Cond.methodLink RX2 157 yX1_setOffset :: wB231
def wB229 : List Cond := Cond.methodLink RX2 154 yX1_offsetAt :: wB230
def wB228 : List Cond := Cond.code yX2_synchronizeClock cX2_synchronizeClock 4 (some .int) :: wB229
def wB227 : List Cond := Cond.code yX2_advanceBy cX2_advanceBy 5 (some .int) :: wB228
def wB226 : List Cond := Cond.selects RX2 yX2_makeCommitted yX2_makeCommitted :: wB227
def wB225 : List Cond := Cond.instanceMethod yX2_makeCommitted :: wB226
def wB224 : List Cond := Cond.methodLink RX2 148 yX2_makeCommitted :: wB225
def wB223 : List Cond := Cond.selects RX2 yX2_ticksUntilCommitted yX2_ticksUntilCommitted :: wB224
def wB222 : List Cond := Cond.instanceMethod yX2_ticksUntilCommitted :: wB223
def wB221 : List Cond := Cond.methodLink RX2 145 yX2_ticksUntilCommitted :: wB222
def wB220 : List Cond := Cond.code yX2_ticksUntilCommitted cX2_ticksUntilCommitted 6 (some .int) :: wB221
def wB219 : List Cond := Cond.selects RX1 yX1_earliestAt yX1_earliestAt :: wB220
def wB218 : List Cond := Cond.instanceMethod yX1_earliestAt :: wB219
def wB217 : List Cond := Cond.methodLink RX2 151 yX1_earliestAt :: wB218
def wB216 : List Cond := Cond.constant RX2 144 (1000000) :: wB217
def wB215 : List Cond := Cond.code yX2_canAdvance cX2_canAdvance 2 (some .boolean) :: wB216
def wB214 : List Cond := Cond.code yX2_makeCommitted cX2_makeCommitted 4 none :: wB215
def wB213 : List Cond := Cond.selects RX5 yX5_add yX5_add :: wB214
def wB212 : List Cond := Cond.instanceMethod yX5_add :: wB213
def wB211 : List Cond := Cond.methodLink RX2 142 yX5_add :: wB212
def wB210 : List Cond := Cond.fieldLink RX2 139 "CommitWaitStore$Transactions" "commitTime" "[I" :: wB211
def wB209 : List Cond := Cond.code yX5_add cX5_add 5 none :: wB210
def wB208 : List Cond := Cond.code yX2_carryOut cX2_carryOut 3 none :: wB209
def wB207 : List Cond := Cond.selects RX2 yX2_makeWaiting yX2_makeWaiting :: wB208
def wB206 : List Cond := Cond.instanceMethod yX2_makeWaiting :: wB207
def wB205 : List Cond := Cond.methodLink RX2 120 yX2_makeWaiting :: wB206
def wB204 : List Cond := Cond.selects RX2 yX2_makeAborted yX2_makeAborted :: wB205
def wB203 : List Cond := Cond.instanceMethod yX2_makeAborted :: wB204
def wB202 : List Cond := Cond.methodLink RX2 117 yX2_makeAborted :: wB203
def wB201 : List Cond := Cond.code yX2_makeWaiting cX2_makeWaiting 4 none :: wB202
def wB200 : List Cond := Cond.selects RX1 yX1_isSoundAt yX1_isSoundAt :: wB201
def wB199 : List Cond := Cond.instanceMethod yX1_isSoundAt :: wB200
def wB198 : List Cond := Cond.methodLink RX2 136 yX1_isSoundAt :: wB199
def wB197 : List Cond := Cond.fieldLink RX2 130 "CommitWaitStore$Transactions" "requestTime" "[I" :: wB198
def wB196 : List Cond := Cond.fieldLink RX2 127 "CommitWaitStore$Transactions" "timestamp" "[I" :: wB197
def wB195 : List Cond := Cond.fieldLink RX2 124 "CommitWaitStore$Transactions" "status" "[I" :: wB196
def wB194 : List Cond := Cond.code yX2_makeAborted cX2_makeAborted 2 (some .int) :: wB195
def wB193 : List Cond := Cond.code yX2_commitOutcome cX2_commitOutcome 4 (some .int) :: wB194
def wB192 : List Cond := Cond.selects RX4 yX4_greatestReaderTimestamp yX4_greatestReaderTimestamp :: wB193
def wB191 : List Cond := Cond.instanceMethod yX4_greatestReaderTimestamp :: wB192
def wB190 : List Cond := Cond.methodLink RX2 114 yX4_greatestReaderTimestamp :: wB191
def wB189 : List Cond := Cond.selects RX5 yX5_timestampOf yX5_timestampOf :: wB190
def wB188 : List Cond := Cond.instanceMethod yX5_timestampOf :: wB189
def wB187 : List Cond := Cond.methodLink RX2 106 yX5_timestampOf :: wB188
def wB186 : List Cond := Cond.methodLink RX2 103 yX4_hasTouched :: wB187
def wB185 : List Cond := Cond.selects RX2 yX2_nextTimestampOf yX2_nextTimestampOf :: wB186
def wB184 : List Cond := Cond.instanceMethod yX2_nextTimestampOf :: wB185
def wB183 : List Cond := Cond.methodLink RX2 100 yX2_nextTimestampOf :: wB184
def wB182 : List Cond := Cond.selects RX4 yX4_isLockedOut yX4_isLockedOut :: wB183
def wB181 : List Cond := Cond.instanceMethod yX4_isLockedOut :: wB182
def wB180 : List Cond := Cond.methodLink RX2 93 yX4_isLockedOut :: wB181
def wB179 : List Cond := Cond.selects RX2 yX2_hasConflict yX2_hasConflict :: wB180
def wB178 : List Cond := Cond.instanceMethod yX2_hasConflict :: wB179
def wB177 : List Cond := Cond.methodLink RX2 89 yX2_hasConflict :: wB178
def wB176 : List Cond := Cond.fieldLink RX2 96 "CommitWaitStore$Transactions" "server" "[I" :: wB177
def wB175 : List Cond := Cond.methodLink RX4 63 Lib.Math.max.name :: wB176
def wB174 : List Cond := Cond.code yX4_greatestReaderTimestamp cX4_greatestReaderTimestamp 4 (some .int) :: wB175
def wB173 : List Cond := Cond.code yX5_timestampOf cX5_timestampOf 3 (some .int) :: wB174
def wB172 : List Cond := Cond.code yX2_nextTimestampOf cX2_nextTimestampOf 3 (some .int) :: wB173
def wB171 : List Cond := Cond.methodLink RX2 160 yX1_latestAt :: wB172
def wB170 : List Cond := Cond.code Lib.Math.max.name Lib.Math.max.code 2 (some .int) :: wB171
def wB169 : List Cond := Cond.static Lib.Math.max.name :: wB170
def wB168 : List Cond := Cond.methodLink RX2 109 Lib.Math.max.name :: wB169
def wB167 : List Cond := Cond.fieldLink RX2 133 "CommitWaitStore$Server" "greatestAssigned" "I" :: wB168
def wB166 : List Cond := Cond.selects RX4 yX4_locks yX4_locks :: wB167
def wB165 : List Cond := Cond.instanceMethod yX4_locks :: wB166
def wB164 : List Cond := Cond.methodLink RX4 60 yX4_locks :: wB165
def wB163 : List Cond := Cond.code yX4_isLockedOut cX4_isLockedOut 3 (some .boolean) :: wB164
def wB162 : List Cond := Cond.selects RX4 yX4_hasTouched yX4_hasTouched :: wB163
def wB161 : List Cond := Cond.instanceMethod yX4_hasTouched :: wB162
def wB160 : List Cond := Cond.methodLink RX4 57 yX4_hasTouched :: wB161
def wB159 : List Cond := Cond.code yX4_locks cX4_locks 4 (some .boolean) :: wB160
def wB158 : List Cond := Cond.methodLink RX4 50 yX4_hasRead :: wB159
def wB157 : List Cond := Cond.code yX4_hasTouched cX4_hasTouched 3 (some .boolean) :: wB158
def wB156 : List Cond := Cond.code yX2_hasConflict cX2_hasConflict 3 (some .boolean) :: wB157
def wB155 : List Cond := Cond.selects RX4 yX4_writtenKeys yX4_writtenKeys :: wB156
def wB154 : List Cond := Cond.instanceMethod yX4_writtenKeys :: wB155
def wB153 : List Cond := Cond.methodLink RX2 86 yX4_writtenKeys :: wB154
def wB152 : List Cond := Cond.methodLink RX2 83 yX4_bufferValue :: wB153
def wB151 : List Cond := Cond.code yX2_writeKey cX2_writeKey 4 (some .int) :: wB152
def wB150 : List Cond := Cond.methodLink RX4 54 yX4_hasWritten :: wB151
def wB149 : List Cond := Cond.code yX4_writtenKeys cX4_writtenKeys 4 (some .int) :: wB150
def wB148 : List Cond := Cond.code yX2_readKey cX2_readKey 3 (some .int) :: wB149
def wB147 : List Cond := Cond.selects RX5 yX5_valueOfVersion yX5_valueOfVersion :: wB148
def wB146 : List Cond := Cond.instanceMethod yX5_valueOfVersion :: wB147
def wB145 : List Cond := Cond.methodLink RX2 80 yX5_valueOfVersion :: wB146
def wB144 : List Cond := Cond.selects RX4 yX4_recordedVersion yX4_recordedVersion :: wB145
def wB143 : List Cond := Cond.instanceMethod yX4_recordedVersion :: wB144
def wB142 : List Cond := Cond.methodLink RX2 77 yX4_recordedVersion :: wB143
def wB141 : List Cond := Cond.methodLink RX2 73 yX4_recordVersion :: wB142
def wB140 : List Cond := Cond.selects RX5 yX5_newest yX5_newest :: wB141
def wB139 : List Cond := Cond.instanceMethod yX5_newest :: wB140
def wB138 : List Cond := Cond.methodLink RX2 70 yX5_newest :: wB139
def wB137 : List Cond := Cond.selects RX4 yX4_hasRead yX4_hasRead :: wB138
def wB136 : List Cond := Cond.instanceMethod yX4_hasRead :: wB137
def wB135 : List Cond := Cond.methodLink RX2 67 yX4_hasRead :: wB136
def wB134 : List Cond := Cond.selects RX4 yX4_bufferOf yX4_bufferOf :: wB135
def wB133 : List Cond := Cond.instanceMethod yX4_bufferOf :: wB134
def wB132 : List Cond := Cond.methodLink RX2 63 yX4_bufferOf :: wB133
def wB131 : List Cond := Cond.selects RX4 yX4_hasWritten yX4_hasWritten :: wB132
def wB130 : List Cond := Cond.instanceMethod yX4_hasWritten :: wB131
def wB129 : List Cond := Cond.methodLink RX2 59 yX4_hasWritten :: wB130
def wB128 : List Cond := Cond.code yX5_valueOfVersion cX5_valueOfVersion 3 (some .int) :: wB129
def wB127 : List Cond := Cond.code yX4_recordedVersion cX4_recordedVersion 3 (some .int) :: wB128
def wB126 : List Cond := Cond.code yX5_newest cX5_newest 2 (some .int) :: wB127
def wB125 : List Cond := Cond.code yX4_hasRead cX4_hasRead 3 (some .boolean) :: wB126
def wB124 : List Cond := Cond.code yX4_bufferOf cX4_bufferOf 3 (some .int) :: wB125
def wB123 : List Cond := Cond.code yX4_hasWritten cX4_hasWritten 3 (some .boolean) :: wB124
def wB122 : List Cond := Cond.selects RX4 yX4_add yX4_add :: wB123
def wB121 : List Cond := Cond.instanceMethod yX4_add :: wB122
def wB120 : List Cond := Cond.methodLink RX2 55 yX4_add :: wB121
def wB119 : List Cond := Cond.code yX2_beginAt cX2_beginAt 2 (some .int) :: wB120
def wB118 : List Cond := Cond.selects RX4 yX4_recordVersion yX4_recordVersion :: wB119
def wB117 : List Cond := Cond.instanceMethod yX4_recordVersion :: wB118
def wB116 : List Cond := Cond.methodLink RX4 47 yX4_recordVersion :: wB117
def wB115 : List Cond := Cond.selects RX4 yX4_bufferValue yX4_bufferValue :: wB116
def wB114 : List Cond := Cond.instanceMethod yX4_bufferValue :: wB115
def wB113 : List Cond := Cond.methodLink RX4 43 yX4_bufferValue :: wB114
def wB112 : List Cond := Cond.code yX4_add cX4_add 4 (some .int) :: wB113
def wB111 : List Cond := Cond.code yX4_recordVersion cX4_recordVersion 4 none :: wB112
def wB110 : List Cond := Cond.code yX4_bufferValue cX4_bufferValue 4 none :: wB111
def wB109 : List Cond := Cond.fieldLink RX2 52 "CommitWaitStore$Transactions" "begun" "I" :: wB110
def wB108 : List Cond := Cond.code yX2_canBegin cX2_canBegin 1 (some .boolean) :: wB109
def wB107 : List Cond := Cond.selects RX1 yX1_latestAt yX1_latestAt :: wB108
def wB106 : List Cond := Cond.instanceMethod yX1_latestAt :: wB107
def wB105 : List Cond := Cond.methodLink RX1 44 yX1_latestAt :: wB106
def wB104 : List Cond := Cond.constantLong RX1 47 (3) :: wB105
def wB103 : List Cond := Cond.code yX1_ticksUntilLatestPasses cX1_ticksUntilLatestPasses 8 (some .int) :: wB104
def wB102 : List Cond := Cond.code yX1_isSoundAt cX1_isSoundAt 4 (some .boolean) :: wB103
def wB101 : List Cond := Cond.code yX1_latestAt cX1_latestAt 2 (some .int) :: wB102
def wB100 : List Cond := Cond.selects RX1 yX1_uncertaintyAt yX1_uncertaintyAt :: wB101
def wB99 : List Cond := Cond.instanceMethod yX1_uncertaintyAt :: wB100
def wB98 : List Cond := Cond.methodLink RX1 41 yX1_uncertaintyAt :: wB99
def wB97 : List Cond := Cond.code yX1_earliestAt cX1_earliestAt 2 (some .int) :: wB98
def wB96 : List Cond := Cond.code yX1_uncertaintyAt cX1_uncertaintyAt 2 (some .int) :: wB97
def wB95 : List Cond := Cond.code yX1_changeUncertainty cX1_changeUncertainty 3 none :: wB96
def wB94 : List Cond := Cond.selects RX1 yX1_offsetAt yX1_offsetAt :: wB95
def wB93 : List Cond := Cond.instanceMethod yX1_offsetAt :: wB94
def wB92 : List Cond := Cond.methodLink RX1 31 yX1_offsetAt :: wB93
def wB91 : List Cond := Cond.code yX1_changeDrift cX1_changeDrift 4 (some .int) :: wB92
def wB90 : List Cond := Cond.initialized RJ9 :: wB91
def wB89 : List Cond := Cond.static yJ9_floorDiv_7cf53 :: wB90
def wB88 : List Cond := Cond.methodLink RX1 35 yJ9_floorDiv_7cf53 :: wB89
def wB87 : List Cond := Cond.code yX1_offsetAt cX1_offsetAt 2 (some .int) :: wB88
def wB86 : List Cond := Cond.code yJ9_floorDiv_7cf53 cJ9_floorDiv_7cf53 3 (some .int) :: wB87
def wB85 : List Cond := Cond.code yX1_setOffset cX1_setOffset 3 none :: wB86
def wB84 : List Cond := Cond.code yX0_popInto cX0_popInto 2 none :: wB85
def wB83 : List Cond := Cond.code yX0_push cX0_push 2 none :: wB84
def wB82 : List Cond := Cond.selects RX2 yX2_copyFrom yX2_copyFrom :: wB83
def wB81 : List Cond := Cond.instanceMethod yX2_copyFrom :: wB82
def wB80 : List Cond := Cond.methodLink RX0 20 yX2_copyFrom :: wB81
def wB79 : List Cond := Cond.code Lib.Math.min.name Lib.Math.min.code 2 (some .int) :: wB80
def wB78 : List Cond := Cond.initialized "java/lang/Math" :: wB79
def wB77 : List Cond := Cond.static Lib.Math.min.name :: wB78
def wB76 : List Cond := Cond.methodLink RX0 27 Lib.Math.min.name :: wB77
def wB75 : List Cond := Cond.fieldLink RX0 24 "CommitWaitStore$SavedStates" "count" "I" :: wB76
def wB74 : List Cond := Cond.fieldLink RX0 16 "CommitWaitStore$SavedStates" "next" "I" :: wB75
def wB73 : List Cond := Cond.code yX2_copyFrom cX2_copyFrom 3 none :: wB74
def wB72 : List Cond := Cond.selects RX4 yX4_copyFrom yX4_copyFrom :: wB73
def wB71 : List Cond := Cond.instanceMethod yX4_copyFrom :: wB72
def wB70 : List Cond := Cond.methodLink RX2 49 yX4_copyFrom :: wB71
def wB69 : List Cond := Cond.selects RX5 yX5_copyFrom yX5_copyFrom :: wB70
def wB68 : List Cond := Cond.instanceMethod yX5_copyFrom :: wB69
def wB67 : List Cond := Cond.methodLink RX2 46 yX5_copyFrom :: wB68
def wB66 : List Cond := Cond.selects RX1 yX1_copyFrom yX1_copyFrom :: wB67
def wB65 : List Cond := Cond.instanceMethod yX1_copyFrom :: wB66
def wB64 : List Cond := Cond.methodLink RX2 42 yX1_copyFrom :: wB65
def wB63 : List Cond := Cond.fieldLink RX2 39 "CommitWaitStore$State" "unsoundUses" "I" :: wB64
def wB62 : List Cond := Cond.fieldLink RX2 36 "CommitWaitStore$State" "readFloor" "I" :: wB63
def wB61 : List Cond := Cond.fieldLink RX2 32 "CommitWaitStore$State" "trueTime" "I" :: wB62
def wB60 : List Cond := Cond.methodLink RX4 37 arraycopyName :: wB61
def wB59 : List Cond := Cond.fieldLink RX4 33 "CommitWaitStore$Transactions" "begun" "I" :: wB60
def wB58 : List Cond := Cond.code yX4_copyFrom cX4_copyFrom 2 none :: wB59
def wB57 : List Cond := Cond.initialized "java/lang/System" :: wB58
def wB56 : List Cond := Cond.static arraycopyName :: wB57
def wB55 : List Cond := Cond.native arraycopyName :: wB56
def wB54 : List Cond := Cond.methodLink RX5 21 arraycopyName :: wB55
def wB53 : List Cond := Cond.code yX5_copyFrom cX5_copyFrom 3 none :: wB54
def wB52 : List Cond := Cond.fieldLink RX1 28 "CommitWaitStore$Server" "greatestAssigned" "I" :: wB53
def wB51 : List Cond := Cond.fieldLink RX1 25 "CommitWaitStore$Server" "synchronizationTime" "I" :: wB52
def wB50 : List Cond := Cond.fieldLink RX1 22 "CommitWaitStore$Server" "drift" "I" :: wB51
def wB49 : List Cond := Cond.fieldLink RX1 19 "CommitWaitStore$Server" "offsetTime" "I" :: wB50
def wB48 : List Cond := Cond.fieldLink RX1 16 "CommitWaitStore$Server" "offsetBase" "I" :: wB49
def wB47 : List Cond := Cond.code yX1_copyFrom cX1_copyFrom 2 none :: wB48
def wB46 : List Cond := Cond.code yX0_init cX0_init 2 none :: wB47
def wB45 : List Cond := Cond.instanceMethod yX2_init :: wB46
def wB44 : List Cond := Cond.methodLink RX0 15 yX2_init :: wB45
def wB43 : List Cond := Cond.initialized RX2 :: wB44
def wB42 : List Cond := Cond.instantiable RX2 6 :: wB43
def wB41 : List Cond := Cond.fieldLink RX0 11 "CommitWaitStore$SavedStates" "ring" "[LCommitWaitStore$State;" :: wB42
def wB40 : List Cond := Cond.classLink RX0 9 RX2 :: wB41
def wB39 : List Cond := Cond.methodLink RX0 1 objectInit :: wB40
def wB38 : List Cond := Cond.code yX2_init cX2_init 2 none :: wB39
def wB37 : List Cond := Cond.instanceMethod yX1_init :: wB38
def wB36 : List Cond := Cond.instanceMethod yX4_init :: wB37
def wB35 : List Cond := Cond.instanceMethod yX5_init :: wB36
def wB34 : List Cond := Cond.methodLink RX2 19 yX5_init :: wB35
def wB33 : List Cond := Cond.initialized RX1 :: wB34
def wB32 : List Cond := Cond.instantiable RX1 7 :: wB33
def wB31 : List Cond := Cond.fieldLink RX2 27 "CommitWaitStore$State" "transactions" "LCommitWaitStore$Transactions;" :: wB32
def wB30 : List Cond := Cond.initialized RX4 :: wB31
def wB29 : List Cond := Cond.instantiable RX4 8 :: wB30
def wB28 : List Cond := Cond.classLink RX2 24 RX4 :: wB29
def wB27 : List Cond := Cond.fieldLink RX2 20 "CommitWaitStore$State" "versions" "LCommitWaitStore$Versions;" :: wB28
def wB26 : List Cond := Cond.initialized RX5 :: wB27
def wB25 : List Cond := Cond.instantiable RX5 3 :: wB26
def wB24 : List Cond := Cond.classLink RX2 17 RX5 :: wB25
def wB23 : List Cond := Cond.fieldLink RX2 11 "CommitWaitStore$State" "servers" "[LCommitWaitStore$Server;" :: wB24
def wB22 : List Cond := Cond.classLink RX2 9 RX1 :: wB23
def wB21 : List Cond := Cond.methodLink RX2 3 objectInit :: wB22
def wB20 : List Cond := Cond.fieldLink RX1 13 "CommitWaitStore$Server" "growth" "I" :: wB21
def wB19 : List Cond := Cond.fieldLink RX1 7 "CommitWaitStore$Server" "baseUncertainty" "I" :: wB20
def wB18 : List Cond := Cond.methodLink RX1 1 objectInit :: wB19
def wB17 : List Cond := Cond.code yX1_init cX1_init 1 none :: wB18
def wB16 : List Cond := Cond.fieldLink RX4 30 "CommitWaitStore$Transactions" "recorded" "[I" :: wB17
def wB15 : List Cond := Cond.fieldLink RX4 27 "CommitWaitStore$Transactions" "buffered" "[I" :: wB16
def wB14 : List Cond := Cond.fieldLink RX4 24 "CommitWaitStore$Transactions" "commitTime" "[I" :: wB15
def wB13 : List Cond := Cond.fieldLink RX4 21 "CommitWaitStore$Transactions" "requestTime" "[I" :: wB14
def wB12 : List Cond := Cond.fieldLink RX4 18 "CommitWaitStore$Transactions" "timestamp" "[I" :: wB13
def wB11 : List Cond := Cond.fieldLink RX4 15 "CommitWaitStore$Transactions" "status" "[I" :: wB12
def wB10 : List Cond := Cond.fieldLink RX4 9 "CommitWaitStore$Transactions" "server" "[I" :: wB11
def wB9 : List Cond := Cond.methodLink RX4 3 objectInit :: wB10
def wB8 : List Cond := Cond.code yX4_init cX4_init 1 none :: wB9
def wB7 : List Cond := Cond.fieldLink RX5 18 "CommitWaitStore$Versions" "values" "[I" :: wB8
def wB6 : List Cond := Cond.fieldLink RX5 15 "CommitWaitStore$Versions" "timestamps" "[I" :: wB7
def wB5 : List Cond := Cond.fieldLink RX5 9 "CommitWaitStore$Versions" "count" "[I" :: wB6
def wB4 : List Cond := Cond.arrayClass .int :: wB5
def wB3 : List Cond := Cond.code objectInit ⟨#[0xb1]⟩ 1 none :: wB4
def wB2 : List Cond := Cond.instanceMethod objectInit :: wB3
def wB1 : List Cond := Cond.methodLink RX5 3 objectInit :: wB2
def wB0 : List Cond := Cond.code yX5_init cX5_init 2 none :: wB1
def wAt : List Cond := (vx_atS RX6 258 "java/lang/IndexOutOfBoundsException" ["java/lang/RuntimeException", "java/lang/Exception"]).filter goodWord ++ ((vx_atS RX6 295 "java/lang/IllegalArgumentException" ["java/lang/RuntimeException", "java/lang/Exception"]).filter goodWord ++ ((vx_atS RX6 50 "java/lang/IllegalStateException" ["java/lang/RuntimeException", "java/lang/Exception"]).filter goodWord))
def wA0 : List Cond := wsX00 ++ (wsX10 ++ (wsX20 ++ (wsX30 ++ (wsX40 ++ (wsX50 ++ (wsX60 ++ (wsX70 ++ (wAt ++ wB0))))))))
theorem iA0 : ∀ w ∈ wsX00, w ∈ wA0 := fun _ h => List.mem_append_left _ h
theorem iA1 : ∀ w ∈ wsX10, w ∈ wA0 := fun _ h => List.mem_append_right _ (List.mem_append_left _ h)
theorem iA2 : ∀ w ∈ wsX20, w ∈ wA0 := fun _ h => List.mem_append_right _ (List.mem_append_right _ (List.mem_append_left _ h))
theorem iA3 : ∀ w ∈ wsX30, w ∈ wA0 := fun _ h => List.mem_append_right _ (List.mem_append_right _ (List.mem_append_right _ (List.mem_append_left _ h)))
theorem iA4 : ∀ w ∈ wsX40, w ∈ wA0 := fun _ h => List.mem_append_right _ (List.mem_append_right _ (List.mem_append_right _ (List.mem_append_right _ (List.mem_append_left _ h))))
theorem iA5 : ∀ w ∈ wsX50, w ∈ wA0 := fun _ h => List.mem_append_right _ (List.mem_append_right _ (List.mem_append_right _ (List.mem_append_right _ (List.mem_append_right _ (List.mem_append_left _ h)))))
theorem iA6 : ∀ w ∈ wsX60, w ∈ wA0 := fun _ h => List.mem_append_right _ (List.mem_append_right _ (List.mem_append_right _ (List.mem_append_right _ (List.mem_append_right _ (List.mem_append_right _ (List.mem_append_left _ h))))))
theorem iA7 : ∀ w ∈ wsX70, w ∈ wA0 := fun _ h => List.mem_append_right _ (List.mem_append_right _ (List.mem_append_right _ (List.mem_append_right _ (List.mem_append_right _ (List.mem_append_right _ (List.mem_append_right _ (List.mem_append_left _ h)))))))
theorem iAt : ∀ w ∈ wAt, w ∈ wA0 := fun _ h => List.mem_append_right _ (List.mem_append_right _ (List.mem_append_right _ (List.mem_append_right _ (List.mem_append_right _ (List.mem_append_right _ (List.mem_append_right _ (List.mem_append_right _ (List.mem_append_left _ h))))))))
theorem iAtI : ∀ w ∈ (vx_atS RX6 258 "java/lang/IndexOutOfBoundsException" ["java/lang/RuntimeException", "java/lang/Exception"]).filter goodWord, w ∈ wA0 := fun w h => iAt w (List.mem_append_left _ h)
theorem iAtA : ∀ w ∈ (vx_atS RX6 295 "java/lang/IllegalArgumentException" ["java/lang/RuntimeException", "java/lang/Exception"]).filter goodWord, w ∈ wA0 := fun w h => iAt w (List.mem_append_right _ (List.mem_append_left _ h))
theorem iAtS : ∀ w ∈ (vx_atS RX6 50 "java/lang/IllegalStateException" ["java/lang/RuntimeException", "java/lang/Exception"]).filter goodWord, w ∈ wA0 := fun w h => iAt w (List.mem_append_right _ (List.mem_append_right _ (h)))
theorem sB0 : ∀ w ∈ wB0, w ∈ wA0 := fun _ h => List.mem_append_right _ (List.mem_append_right _ (List.mem_append_right _ (List.mem_append_right _ (List.mem_append_right _ (List.mem_append_right _ (List.mem_append_right _ (List.mem_append_right _ (List.mem_append_right _ (h)))))))))
theorem mB0 : Cond.code yX5_init cX5_init 2 none ∈ wA0 := sB0 _ List.mem_cons_self
theorem sB1 : ∀ w ∈ wB1, w ∈ wA0 := fun w h => sB0 w (List.mem_cons_of_mem _ h)
theorem mB1 : Cond.methodLink RX5 3 objectInit ∈ wA0 := sB1 _ List.mem_cons_self
theorem sB2 : ∀ w ∈ wB2, w ∈ wA0 := fun w h => sB1 w (List.mem_cons_of_mem _ h)
theorem mB2 : Cond.instanceMethod objectInit ∈ wA0 := sB2 _ List.mem_cons_self
theorem sB3 : ∀ w ∈ wB3, w ∈ wA0 := fun w h => sB2 w (List.mem_cons_of_mem _ h)
theorem mB3 : Cond.code objectInit ⟨#[0xb1]⟩ 1 none ∈ wA0 := sB3 _ List.mem_cons_self
theorem sB4 : ∀ w ∈ wB4, w ∈ wA0 := fun w h => sB3 w (List.mem_cons_of_mem _ h)
theorem mB4 : Cond.arrayClass .int ∈ wA0 := sB4 _ List.mem_cons_self
theorem sB5 : ∀ w ∈ wB5, w ∈ wA0 := fun w h => sB4 w (List.mem_cons_of_mem _ h)
theorem mB5 : Cond.fieldLink RX5 9 "CommitWaitStore$Versions" "count" "[I" ∈ wA0 := sB5 _ List.mem_cons_self
theorem sB6 : ∀ w ∈ wB6, w ∈ wA0 := fun w h => sB5 w (List.mem_cons_of_mem _ h)
theorem mB6 : Cond.fieldLink RX5 15 "CommitWaitStore$Versions" "timestamps" "[I" ∈ wA0 := sB6 _ List.mem_cons_self
theorem sB7 : ∀ w ∈ wB7, w ∈ wA0 := fun w h => sB6 w (List.mem_cons_of_mem _ h)
theorem mB7 : Cond.fieldLink RX5 18 "CommitWaitStore$Versions" "values" "[I" ∈ wA0 := sB7 _ List.mem_cons_self
theorem sB8 : ∀ w ∈ wB8, w ∈ wA0 := fun w h => sB7 w (List.mem_cons_of_mem _ h)
theorem mB8 : Cond.code yX4_init cX4_init 1 none ∈ wA0 := sB8 _ List.mem_cons_self
theorem sB9 : ∀ w ∈ wB9, w ∈ wA0 := fun w h => sB8 w (List.mem_cons_of_mem _ h)
theorem mB9 : Cond.methodLink RX4 3 objectInit ∈ wA0 := sB9 _ List.mem_cons_self
theorem sB10 : ∀ w ∈ wB10, w ∈ wA0 := fun w h => sB9 w (List.mem_cons_of_mem _ h)
theorem mB10 : Cond.fieldLink RX4 9 "CommitWaitStore$Transactions" "server" "[I" ∈ wA0 := sB10 _ List.mem_cons_self
theorem sB11 : ∀ w ∈ wB11, w ∈ wA0 := fun w h => sB10 w (List.mem_cons_of_mem _ h)
theorem mB11 : Cond.fieldLink RX4 15 "CommitWaitStore$Transactions" "status" "[I" ∈ wA0 := sB11 _ List.mem_cons_self
theorem sB12 : ∀ w ∈ wB12, w ∈ wA0 := fun w h => sB11 w (List.mem_cons_of_mem _ h)
theorem mB12 : Cond.fieldLink RX4 18 "CommitWaitStore$Transactions" "timestamp" "[I" ∈ wA0 := sB12 _ List.mem_cons_self
theorem sB13 : ∀ w ∈ wB13, w ∈ wA0 := fun w h => sB12 w (List.mem_cons_of_mem _ h)
theorem mB13 : Cond.fieldLink RX4 21 "CommitWaitStore$Transactions" "requestTime" "[I" ∈ wA0 := sB13 _ List.mem_cons_self
theorem sB14 : ∀ w ∈ wB14, w ∈ wA0 := fun w h => sB13 w (List.mem_cons_of_mem _ h)
theorem mB14 : Cond.fieldLink RX4 24 "CommitWaitStore$Transactions" "commitTime" "[I" ∈ wA0 := sB14 _ List.mem_cons_self
theorem sB15 : ∀ w ∈ wB15, w ∈ wA0 := fun w h => sB14 w (List.mem_cons_of_mem _ h)
theorem mB15 : Cond.fieldLink RX4 27 "CommitWaitStore$Transactions" "buffered" "[I" ∈ wA0 := sB15 _ List.mem_cons_self
theorem sB16 : ∀ w ∈ wB16, w ∈ wA0 := fun w h => sB15 w (List.mem_cons_of_mem _ h)
theorem mB16 : Cond.fieldLink RX4 30 "CommitWaitStore$Transactions" "recorded" "[I" ∈ wA0 := sB16 _ List.mem_cons_self
theorem sB17 : ∀ w ∈ wB17, w ∈ wA0 := fun w h => sB16 w (List.mem_cons_of_mem _ h)
theorem mB17 : Cond.code yX1_init cX1_init 1 none ∈ wA0 := sB17 _ List.mem_cons_self
theorem sB18 : ∀ w ∈ wB18, w ∈ wA0 := fun w h => sB17 w (List.mem_cons_of_mem _ h)
theorem mB18 : Cond.methodLink RX1 1 objectInit ∈ wA0 := sB18 _ List.mem_cons_self
theorem sB19 : ∀ w ∈ wB19, w ∈ wA0 := fun w h => sB18 w (List.mem_cons_of_mem _ h)
theorem mB19 : Cond.fieldLink RX1 7 "CommitWaitStore$Server" "baseUncertainty" "I" ∈ wA0 := sB19 _ List.mem_cons_self
theorem sB20 : ∀ w ∈ wB20, w ∈ wA0 := fun w h => sB19 w (List.mem_cons_of_mem _ h)
theorem mB20 : Cond.fieldLink RX1 13 "CommitWaitStore$Server" "growth" "I" ∈ wA0 := sB20 _ List.mem_cons_self
theorem sB21 : ∀ w ∈ wB21, w ∈ wA0 := fun w h => sB20 w (List.mem_cons_of_mem _ h)
theorem mB21 : Cond.methodLink RX2 3 objectInit ∈ wA0 := sB21 _ List.mem_cons_self
theorem sB22 : ∀ w ∈ wB22, w ∈ wA0 := fun w h => sB21 w (List.mem_cons_of_mem _ h)
theorem mB22 : Cond.classLink RX2 9 RX1 ∈ wA0 := sB22 _ List.mem_cons_self
theorem sB23 : ∀ w ∈ wB23, w ∈ wA0 := fun w h => sB22 w (List.mem_cons_of_mem _ h)
theorem mB23 : Cond.fieldLink RX2 11 "CommitWaitStore$State" "servers" "[LCommitWaitStore$Server;" ∈ wA0 := sB23 _ List.mem_cons_self
theorem sB24 : ∀ w ∈ wB24, w ∈ wA0 := fun w h => sB23 w (List.mem_cons_of_mem _ h)
theorem mB24 : Cond.classLink RX2 17 RX5 ∈ wA0 := sB24 _ List.mem_cons_self
theorem sB25 : ∀ w ∈ wB25, w ∈ wA0 := fun w h => sB24 w (List.mem_cons_of_mem _ h)
theorem mB25 : Cond.instantiable RX5 3 ∈ wA0 := sB25 _ List.mem_cons_self
theorem sB26 : ∀ w ∈ wB26, w ∈ wA0 := fun w h => sB25 w (List.mem_cons_of_mem _ h)
theorem mB26 : Cond.initialized RX5 ∈ wA0 := sB26 _ List.mem_cons_self
theorem sB27 : ∀ w ∈ wB27, w ∈ wA0 := fun w h => sB26 w (List.mem_cons_of_mem _ h)
theorem mB27 : Cond.fieldLink RX2 20 "CommitWaitStore$State" "versions" "LCommitWaitStore$Versions;" ∈ wA0 := sB27 _ List.mem_cons_self
theorem sB28 : ∀ w ∈ wB28, w ∈ wA0 := fun w h => sB27 w (List.mem_cons_of_mem _ h)
theorem mB28 : Cond.classLink RX2 24 RX4 ∈ wA0 := sB28 _ List.mem_cons_self
theorem sB29 : ∀ w ∈ wB29, w ∈ wA0 := fun w h => sB28 w (List.mem_cons_of_mem _ h)
theorem mB29 : Cond.instantiable RX4 8 ∈ wA0 := sB29 _ List.mem_cons_self
theorem sB30 : ∀ w ∈ wB30, w ∈ wA0 := fun w h => sB29 w (List.mem_cons_of_mem _ h)
theorem mB30 : Cond.initialized RX4 ∈ wA0 := sB30 _ List.mem_cons_self
theorem sB31 : ∀ w ∈ wB31, w ∈ wA0 := fun w h => sB30 w (List.mem_cons_of_mem _ h)
theorem mB31 : Cond.fieldLink RX2 27 "CommitWaitStore$State" "transactions" "LCommitWaitStore$Transactions;" ∈ wA0 := sB31 _ List.mem_cons_self
theorem sB32 : ∀ w ∈ wB32, w ∈ wA0 := fun w h => sB31 w (List.mem_cons_of_mem _ h)
theorem mB32 : Cond.instantiable RX1 7 ∈ wA0 := sB32 _ List.mem_cons_self
theorem sB33 : ∀ w ∈ wB33, w ∈ wA0 := fun w h => sB32 w (List.mem_cons_of_mem _ h)
theorem mB33 : Cond.initialized RX1 ∈ wA0 := sB33 _ List.mem_cons_self
theorem sB34 : ∀ w ∈ wB34, w ∈ wA0 := fun w h => sB33 w (List.mem_cons_of_mem _ h)
theorem mB34 : Cond.methodLink RX2 19 yX5_init ∈ wA0 := sB34 _ List.mem_cons_self
theorem sB35 : ∀ w ∈ wB35, w ∈ wA0 := fun w h => sB34 w (List.mem_cons_of_mem _ h)
theorem mB35 : Cond.instanceMethod yX5_init ∈ wA0 := sB35 _ List.mem_cons_self
theorem sB36 : ∀ w ∈ wB36, w ∈ wA0 := fun w h => sB35 w (List.mem_cons_of_mem _ h)
theorem mB36 : Cond.instanceMethod yX4_init ∈ wA0 := sB36 _ List.mem_cons_self
theorem sB37 : ∀ w ∈ wB37, w ∈ wA0 := fun w h => sB36 w (List.mem_cons_of_mem _ h)
theorem mB37 : Cond.instanceMethod yX1_init ∈ wA0 := sB37 _ List.mem_cons_self
theorem sB38 : ∀ w ∈ wB38, w ∈ wA0 := fun w h => sB37 w (List.mem_cons_of_mem _ h)
theorem mB38 : Cond.code yX2_init cX2_init 2 none ∈ wA0 := sB38 _ List.mem_cons_self
theorem sB39 : ∀ w ∈ wB39, w ∈ wA0 := fun w h => sB38 w (List.mem_cons_of_mem _ h)
theorem mB39 : Cond.methodLink RX0 1 objectInit ∈ wA0 := sB39 _ List.mem_cons_self
theorem sB40 : ∀ w ∈ wB40, w ∈ wA0 := fun w h => sB39 w (List.mem_cons_of_mem _ h)
theorem mB40 : Cond.classLink RX0 9 RX2 ∈ wA0 := sB40 _ List.mem_cons_self
theorem sB41 : ∀ w ∈ wB41, w ∈ wA0 := fun w h => sB40 w (List.mem_cons_of_mem _ h)
theorem mB41 : Cond.fieldLink RX0 11 "CommitWaitStore$SavedStates" "ring" "[LCommitWaitStore$State;" ∈ wA0 := sB41 _ List.mem_cons_self
theorem sB42 : ∀ w ∈ wB42, w ∈ wA0 := fun w h => sB41 w (List.mem_cons_of_mem _ h)
theorem mB42 : Cond.instantiable RX2 6 ∈ wA0 := sB42 _ List.mem_cons_self
theorem sB43 : ∀ w ∈ wB43, w ∈ wA0 := fun w h => sB42 w (List.mem_cons_of_mem _ h)
theorem mB43 : Cond.initialized RX2 ∈ wA0 := sB43 _ List.mem_cons_self
theorem sB44 : ∀ w ∈ wB44, w ∈ wA0 := fun w h => sB43 w (List.mem_cons_of_mem _ h)
theorem mB44 : Cond.methodLink RX0 15 yX2_init ∈ wA0 := sB44 _ List.mem_cons_self
theorem sB45 : ∀ w ∈ wB45, w ∈ wA0 := fun w h => sB44 w (List.mem_cons_of_mem _ h)
theorem mB45 : Cond.instanceMethod yX2_init ∈ wA0 := sB45 _ List.mem_cons_self
theorem sB46 : ∀ w ∈ wB46, w ∈ wA0 := fun w h => sB45 w (List.mem_cons_of_mem _ h)
theorem mB46 : Cond.code yX0_init cX0_init 2 none ∈ wA0 := sB46 _ List.mem_cons_self
theorem sB47 : ∀ w ∈ wB47, w ∈ wA0 := fun w h => sB46 w (List.mem_cons_of_mem _ h)
theorem mB47 : Cond.code yX1_copyFrom cX1_copyFrom 2 none ∈ wA0 := sB47 _ List.mem_cons_self
theorem sB48 : ∀ w ∈ wB48, w ∈ wA0 := fun w h => sB47 w (List.mem_cons_of_mem _ h)
theorem mB48 : Cond.fieldLink RX1 16 "CommitWaitStore$Server" "offsetBase" "I" ∈ wA0 := sB48 _ List.mem_cons_self
theorem sB49 : ∀ w ∈ wB49, w ∈ wA0 := fun w h => sB48 w (List.mem_cons_of_mem _ h)
theorem mB49 : Cond.fieldLink RX1 19 "CommitWaitStore$Server" "offsetTime" "I" ∈ wA0 := sB49 _ List.mem_cons_self
theorem sB50 : ∀ w ∈ wB50, w ∈ wA0 := fun w h => sB49 w (List.mem_cons_of_mem _ h)
theorem mB50 : Cond.fieldLink RX1 22 "CommitWaitStore$Server" "drift" "I" ∈ wA0 := sB50 _ List.mem_cons_self
theorem sB51 : ∀ w ∈ wB51, w ∈ wA0 := fun w h => sB50 w (List.mem_cons_of_mem _ h)
theorem mB51 : Cond.fieldLink RX1 25 "CommitWaitStore$Server" "synchronizationTime" "I" ∈ wA0 := sB51 _ List.mem_cons_self
theorem sB52 : ∀ w ∈ wB52, w ∈ wA0 := fun w h => sB51 w (List.mem_cons_of_mem _ h)
theorem mB52 : Cond.fieldLink RX1 28 "CommitWaitStore$Server" "greatestAssigned" "I" ∈ wA0 := sB52 _ List.mem_cons_self
theorem sB53 : ∀ w ∈ wB53, w ∈ wA0 := fun w h => sB52 w (List.mem_cons_of_mem _ h)
theorem mB53 : Cond.code yX5_copyFrom cX5_copyFrom 3 none ∈ wA0 := sB53 _ List.mem_cons_self
theorem sB54 : ∀ w ∈ wB54, w ∈ wA0 := fun w h => sB53 w (List.mem_cons_of_mem _ h)
theorem mB54 : Cond.methodLink RX5 21 arraycopyName ∈ wA0 := sB54 _ List.mem_cons_self
theorem sB55 : ∀ w ∈ wB55, w ∈ wA0 := fun w h => sB54 w (List.mem_cons_of_mem _ h)
theorem mB55 : Cond.native arraycopyName ∈ wA0 := sB55 _ List.mem_cons_self
theorem sB56 : ∀ w ∈ wB56, w ∈ wA0 := fun w h => sB55 w (List.mem_cons_of_mem _ h)
theorem mB56 : Cond.static arraycopyName ∈ wA0 := sB56 _ List.mem_cons_self
theorem sB57 : ∀ w ∈ wB57, w ∈ wA0 := fun w h => sB56 w (List.mem_cons_of_mem _ h)
theorem mB57 : Cond.initialized "java/lang/System" ∈ wA0 := sB57 _ List.mem_cons_self
theorem sB58 : ∀ w ∈ wB58, w ∈ wA0 := fun w h => sB57 w (List.mem_cons_of_mem _ h)
theorem mB58 : Cond.code yX4_copyFrom cX4_copyFrom 2 none ∈ wA0 := sB58 _ List.mem_cons_self
theorem sB59 : ∀ w ∈ wB59, w ∈ wA0 := fun w h => sB58 w (List.mem_cons_of_mem _ h)
theorem mB59 : Cond.fieldLink RX4 33 "CommitWaitStore$Transactions" "begun" "I" ∈ wA0 := sB59 _ List.mem_cons_self
theorem sB60 : ∀ w ∈ wB60, w ∈ wA0 := fun w h => sB59 w (List.mem_cons_of_mem _ h)
theorem mB60 : Cond.methodLink RX4 37 arraycopyName ∈ wA0 := sB60 _ List.mem_cons_self
theorem sB61 : ∀ w ∈ wB61, w ∈ wA0 := fun w h => sB60 w (List.mem_cons_of_mem _ h)
theorem mB61 : Cond.fieldLink RX2 32 "CommitWaitStore$State" "trueTime" "I" ∈ wA0 := sB61 _ List.mem_cons_self
theorem sB62 : ∀ w ∈ wB62, w ∈ wA0 := fun w h => sB61 w (List.mem_cons_of_mem _ h)
theorem mB62 : Cond.fieldLink RX2 36 "CommitWaitStore$State" "readFloor" "I" ∈ wA0 := sB62 _ List.mem_cons_self
theorem sB63 : ∀ w ∈ wB63, w ∈ wA0 := fun w h => sB62 w (List.mem_cons_of_mem _ h)
theorem mB63 : Cond.fieldLink RX2 39 "CommitWaitStore$State" "unsoundUses" "I" ∈ wA0 := sB63 _ List.mem_cons_self
theorem sB64 : ∀ w ∈ wB64, w ∈ wA0 := fun w h => sB63 w (List.mem_cons_of_mem _ h)
theorem mB64 : Cond.methodLink RX2 42 yX1_copyFrom ∈ wA0 := sB64 _ List.mem_cons_self
theorem sB65 : ∀ w ∈ wB65, w ∈ wA0 := fun w h => sB64 w (List.mem_cons_of_mem _ h)
theorem mB65 : Cond.instanceMethod yX1_copyFrom ∈ wA0 := sB65 _ List.mem_cons_self
theorem sB66 : ∀ w ∈ wB66, w ∈ wA0 := fun w h => sB65 w (List.mem_cons_of_mem _ h)
theorem mB66 : Cond.selects RX1 yX1_copyFrom yX1_copyFrom ∈ wA0 := sB66 _ List.mem_cons_self
theorem sB67 : ∀ w ∈ wB67, w ∈ wA0 := fun w h => sB66 w (List.mem_cons_of_mem _ h)
theorem mB67 : Cond.methodLink RX2 46 yX5_copyFrom ∈ wA0 := sB67 _ List.mem_cons_self
theorem sB68 : ∀ w ∈ wB68, w ∈ wA0 := fun w h => sB67 w (List.mem_cons_of_mem _ h)
theorem mB68 : Cond.instanceMethod yX5_copyFrom ∈ wA0 := sB68 _ List.mem_cons_self
theorem sB69 : ∀ w ∈ wB69, w ∈ wA0 := fun w h => sB68 w (List.mem_cons_of_mem _ h)
theorem mB69 : Cond.selects RX5 yX5_copyFrom yX5_copyFrom ∈ wA0 := sB69 _ List.mem_cons_self
theorem sB70 : ∀ w ∈ wB70, w ∈ wA0 := fun w h => sB69 w (List.mem_cons_of_mem _ h)
theorem mB70 : Cond.methodLink RX2 49 yX4_copyFrom ∈ wA0 := sB70 _ List.mem_cons_self
theorem sB71 : ∀ w ∈ wB71, w ∈ wA0 := fun w h => sB70 w (List.mem_cons_of_mem _ h)
theorem mB71 : Cond.instanceMethod yX4_copyFrom ∈ wA0 := sB71 _ List.mem_cons_self
theorem sB72 : ∀ w ∈ wB72, w ∈ wA0 := fun w h => sB71 w (List.mem_cons_of_mem _ h)
theorem mB72 : Cond.selects RX4 yX4_copyFrom yX4_copyFrom ∈ wA0 := sB72 _ List.mem_cons_self
theorem sB73 : ∀ w ∈ wB73, w ∈ wA0 := fun w h => sB72 w (List.mem_cons_of_mem _ h)
theorem mB73 : Cond.code yX2_copyFrom cX2_copyFrom 3 none ∈ wA0 := sB73 _ List.mem_cons_self
theorem sB74 : ∀ w ∈ wB74, w ∈ wA0 := fun w h => sB73 w (List.mem_cons_of_mem _ h)
theorem mB74 : Cond.fieldLink RX0 16 "CommitWaitStore$SavedStates" "next" "I" ∈ wA0 := sB74 _ List.mem_cons_self
theorem sB75 : ∀ w ∈ wB75, w ∈ wA0 := fun w h => sB74 w (List.mem_cons_of_mem _ h)
theorem mB75 : Cond.fieldLink RX0 24 "CommitWaitStore$SavedStates" "count" "I" ∈ wA0 := sB75 _ List.mem_cons_self
theorem sB76 : ∀ w ∈ wB76, w ∈ wA0 := fun w h => sB75 w (List.mem_cons_of_mem _ h)
theorem mB76 : Cond.methodLink RX0 27 Lib.Math.min.name ∈ wA0 := sB76 _ List.mem_cons_self
theorem sB77 : ∀ w ∈ wB77, w ∈ wA0 := fun w h => sB76 w (List.mem_cons_of_mem _ h)
theorem mB77 : Cond.static Lib.Math.min.name ∈ wA0 := sB77 _ List.mem_cons_self
theorem sB78 : ∀ w ∈ wB78, w ∈ wA0 := fun w h => sB77 w (List.mem_cons_of_mem _ h)
theorem mB78 : Cond.initialized "java/lang/Math" ∈ wA0 := sB78 _ List.mem_cons_self
theorem sB79 : ∀ w ∈ wB79, w ∈ wA0 := fun w h => sB78 w (List.mem_cons_of_mem _ h)
theorem mB79 : Cond.code Lib.Math.min.name Lib.Math.min.code 2 (some .int) ∈ wA0 := sB79 _ List.mem_cons_self
theorem sB80 : ∀ w ∈ wB80, w ∈ wA0 := fun w h => sB79 w (List.mem_cons_of_mem _ h)
theorem mB80 : Cond.methodLink RX0 20 yX2_copyFrom ∈ wA0 := sB80 _ List.mem_cons_self
theorem sB81 : ∀ w ∈ wB81, w ∈ wA0 := fun w h => sB80 w (List.mem_cons_of_mem _ h)
theorem mB81 : Cond.instanceMethod yX2_copyFrom ∈ wA0 := sB81 _ List.mem_cons_self
theorem sB82 : ∀ w ∈ wB82, w ∈ wA0 := fun w h => sB81 w (List.mem_cons_of_mem _ h)
theorem mB82 : Cond.selects RX2 yX2_copyFrom yX2_copyFrom ∈ wA0 := sB82 _ List.mem_cons_self
theorem sB83 : ∀ w ∈ wB83, w ∈ wA0 := fun w h => sB82 w (List.mem_cons_of_mem _ h)
theorem mB83 : Cond.code yX0_push cX0_push 2 none ∈ wA0 := sB83 _ List.mem_cons_self
theorem sB84 : ∀ w ∈ wB84, w ∈ wA0 := fun w h => sB83 w (List.mem_cons_of_mem _ h)
theorem mB84 : Cond.code yX0_popInto cX0_popInto 2 none ∈ wA0 := sB84 _ List.mem_cons_self
theorem sB85 : ∀ w ∈ wB85, w ∈ wA0 := fun w h => sB84 w (List.mem_cons_of_mem _ h)
theorem mB85 : Cond.code yX1_setOffset cX1_setOffset 3 none ∈ wA0 := sB85 _ List.mem_cons_self
theorem sB86 : ∀ w ∈ wB86, w ∈ wA0 := fun w h => sB85 w (List.mem_cons_of_mem _ h)
theorem mB86 : Cond.code yJ9_floorDiv_7cf53 cJ9_floorDiv_7cf53 3 (some .int) ∈ wA0 := sB86 _ List.mem_cons_self
theorem sB87 : ∀ w ∈ wB87, w ∈ wA0 := fun w h => sB86 w (List.mem_cons_of_mem _ h)
theorem mB87 : Cond.code yX1_offsetAt cX1_offsetAt 2 (some .int) ∈ wA0 := sB87 _ List.mem_cons_self
theorem sB88 : ∀ w ∈ wB88, w ∈ wA0 := fun w h => sB87 w (List.mem_cons_of_mem _ h)
theorem mB88 : Cond.methodLink RX1 35 yJ9_floorDiv_7cf53 ∈ wA0 := sB88 _ List.mem_cons_self
theorem sB89 : ∀ w ∈ wB89, w ∈ wA0 := fun w h => sB88 w (List.mem_cons_of_mem _ h)
theorem mB89 : Cond.static yJ9_floorDiv_7cf53 ∈ wA0 := sB89 _ List.mem_cons_self
theorem sB90 : ∀ w ∈ wB90, w ∈ wA0 := fun w h => sB89 w (List.mem_cons_of_mem _ h)
theorem mB90 : Cond.initialized RJ9 ∈ wA0 := sB90 _ List.mem_cons_self
theorem sB91 : ∀ w ∈ wB91, w ∈ wA0 := fun w h => sB90 w (List.mem_cons_of_mem _ h)
theorem mB91 : Cond.code yX1_changeDrift cX1_changeDrift 4 (some .int) ∈ wA0 := sB91 _ List.mem_cons_self
theorem sB92 : ∀ w ∈ wB92, w ∈ wA0 := fun w h => sB91 w (List.mem_cons_of_mem _ h)
theorem mB92 : Cond.methodLink RX1 31 yX1_offsetAt ∈ wA0 := sB92 _ List.mem_cons_self
theorem sB93 : ∀ w ∈ wB93, w ∈ wA0 := fun w h => sB92 w (List.mem_cons_of_mem _ h)
theorem mB93 : Cond.instanceMethod yX1_offsetAt ∈ wA0 := sB93 _ List.mem_cons_self
theorem sB94 : ∀ w ∈ wB94, w ∈ wA0 := fun w h => sB93 w (List.mem_cons_of_mem _ h)
theorem mB94 : Cond.selects RX1 yX1_offsetAt yX1_offsetAt ∈ wA0 := sB94 _ List.mem_cons_self
theorem sB95 : ∀ w ∈ wB95, w ∈ wA0 := fun w h => sB94 w (List.mem_cons_of_mem _ h)
theorem mB95 : Cond.code yX1_changeUncertainty cX1_changeUncertainty 3 none ∈ wA0 := sB95 _ List.mem_cons_self
theorem sB96 : ∀ w ∈ wB96, w ∈ wA0 := fun w h => sB95 w (List.mem_cons_of_mem _ h)
theorem mB96 : Cond.code yX1_uncertaintyAt cX1_uncertaintyAt 2 (some .int) ∈ wA0 := sB96 _ List.mem_cons_self
theorem sB97 : ∀ w ∈ wB97, w ∈ wA0 := fun w h => sB96 w (List.mem_cons_of_mem _ h)
theorem mB97 : Cond.code yX1_earliestAt cX1_earliestAt 2 (some .int) ∈ wA0 := sB97 _ List.mem_cons_self
theorem sB98 : ∀ w ∈ wB98, w ∈ wA0 := fun w h => sB97 w (List.mem_cons_of_mem _ h)
theorem mB98 : Cond.methodLink RX1 41 yX1_uncertaintyAt ∈ wA0 := sB98 _ List.mem_cons_self
theorem sB99 : ∀ w ∈ wB99, w ∈ wA0 := fun w h => sB98 w (List.mem_cons_of_mem _ h)
theorem mB99 : Cond.instanceMethod yX1_uncertaintyAt ∈ wA0 := sB99 _ List.mem_cons_self
theorem sB100 : ∀ w ∈ wB100, w ∈ wA0 := fun w h => sB99 w (List.mem_cons_of_mem _ h)
theorem mB100 : Cond.selects RX1 yX1_uncertaintyAt yX1_uncertaintyAt ∈ wA0 := sB100 _ List.mem_cons_self
theorem sB101 : ∀ w ∈ wB101, w ∈ wA0 := fun w h => sB100 w (List.mem_cons_of_mem _ h)
theorem mB101 : Cond.code yX1_latestAt cX1_latestAt 2 (some .int) ∈ wA0 := sB101 _ List.mem_cons_self
theorem sB102 : ∀ w ∈ wB102, w ∈ wA0 := fun w h => sB101 w (List.mem_cons_of_mem _ h)
theorem mB102 : Cond.code yX1_isSoundAt cX1_isSoundAt 4 (some .boolean) ∈ wA0 := sB102 _ List.mem_cons_self
theorem sB103 : ∀ w ∈ wB103, w ∈ wA0 := fun w h => sB102 w (List.mem_cons_of_mem _ h)
theorem mB103 : Cond.code yX1_ticksUntilLatestPasses cX1_ticksUntilLatestPasses 8 (some .int) ∈ wA0 := sB103 _ List.mem_cons_self
theorem sB104 : ∀ w ∈ wB104, w ∈ wA0 := fun w h => sB103 w (List.mem_cons_of_mem _ h)
theorem mB104 : Cond.constantLong RX1 47 (3) ∈ wA0 := sB104 _ List.mem_cons_self
theorem sB105 : ∀ w ∈ wB105, w ∈ wA0 := fun w h => sB104 w (List.mem_cons_of_mem _ h)
theorem mB105 : Cond.methodLink RX1 44 yX1_latestAt ∈ wA0 := sB105 _ List.mem_cons_self
theorem sB106 : ∀ w ∈ wB106, w ∈ wA0 := fun w h => sB105 w (List.mem_cons_of_mem _ h)
theorem mB106 : Cond.instanceMethod yX1_latestAt ∈ wA0 := sB106 _ List.mem_cons_self
theorem sB107 : ∀ w ∈ wB107, w ∈ wA0 := fun w h => sB106 w (List.mem_cons_of_mem _ h)
theorem mB107 : Cond.selects RX1 yX1_latestAt yX1_latestAt ∈ wA0 := sB107 _ List.mem_cons_self
theorem sB108 : ∀ w ∈ wB108, w ∈ wA0 := fun w h => sB107 w (List.mem_cons_of_mem _ h)
theorem mB108 : Cond.code yX2_canBegin cX2_canBegin 1 (some .boolean) ∈ wA0 := sB108 _ List.mem_cons_self
theorem sB109 : ∀ w ∈ wB109, w ∈ wA0 := fun w h => sB108 w (List.mem_cons_of_mem _ h)
theorem mB109 : Cond.fieldLink RX2 52 "CommitWaitStore$Transactions" "begun" "I" ∈ wA0 := sB109 _ List.mem_cons_self
theorem sB110 : ∀ w ∈ wB110, w ∈ wA0 := fun w h => sB109 w (List.mem_cons_of_mem _ h)
theorem mB110 : Cond.code yX4_bufferValue cX4_bufferValue 4 none ∈ wA0 := sB110 _ List.mem_cons_self
theorem sB111 : ∀ w ∈ wB111, w ∈ wA0 := fun w h => sB110 w (List.mem_cons_of_mem _ h)
theorem mB111 : Cond.code yX4_recordVersion cX4_recordVersion 4 none ∈ wA0 := sB111 _ List.mem_cons_self
theorem sB112 : ∀ w ∈ wB112, w ∈ wA0 := fun w h => sB111 w (List.mem_cons_of_mem _ h)
theorem mB112 : Cond.code yX4_add cX4_add 4 (some .int) ∈ wA0 := sB112 _ List.mem_cons_self
theorem sB113 : ∀ w ∈ wB113, w ∈ wA0 := fun w h => sB112 w (List.mem_cons_of_mem _ h)
theorem mB113 : Cond.methodLink RX4 43 yX4_bufferValue ∈ wA0 := sB113 _ List.mem_cons_self
theorem sB114 : ∀ w ∈ wB114, w ∈ wA0 := fun w h => sB113 w (List.mem_cons_of_mem _ h)
theorem mB114 : Cond.instanceMethod yX4_bufferValue ∈ wA0 := sB114 _ List.mem_cons_self
theorem sB115 : ∀ w ∈ wB115, w ∈ wA0 := fun w h => sB114 w (List.mem_cons_of_mem _ h)
theorem mB115 : Cond.selects RX4 yX4_bufferValue yX4_bufferValue ∈ wA0 := sB115 _ List.mem_cons_self
theorem sB116 : ∀ w ∈ wB116, w ∈ wA0 := fun w h => sB115 w (List.mem_cons_of_mem _ h)
theorem mB116 : Cond.methodLink RX4 47 yX4_recordVersion ∈ wA0 := sB116 _ List.mem_cons_self
theorem sB117 : ∀ w ∈ wB117, w ∈ wA0 := fun w h => sB116 w (List.mem_cons_of_mem _ h)
theorem mB117 : Cond.instanceMethod yX4_recordVersion ∈ wA0 := sB117 _ List.mem_cons_self
theorem sB118 : ∀ w ∈ wB118, w ∈ wA0 := fun w h => sB117 w (List.mem_cons_of_mem _ h)
theorem mB118 : Cond.selects RX4 yX4_recordVersion yX4_recordVersion ∈ wA0 := sB118 _ List.mem_cons_self
theorem sB119 : ∀ w ∈ wB119, w ∈ wA0 := fun w h => sB118 w (List.mem_cons_of_mem _ h)
theorem mB119 : Cond.code yX2_beginAt cX2_beginAt 2 (some .int) ∈ wA0 := sB119 _ List.mem_cons_self
theorem sB120 : ∀ w ∈ wB120, w ∈ wA0 := fun w h => sB119 w (List.mem_cons_of_mem _ h)
theorem mB120 : Cond.methodLink RX2 55 yX4_add ∈ wA0 := sB120 _ List.mem_cons_self
theorem sB121 : ∀ w ∈ wB121, w ∈ wA0 := fun w h => sB120 w (List.mem_cons_of_mem _ h)
theorem mB121 : Cond.instanceMethod yX4_add ∈ wA0 := sB121 _ List.mem_cons_self
theorem sB122 : ∀ w ∈ wB122, w ∈ wA0 := fun w h => sB121 w (List.mem_cons_of_mem _ h)
theorem mB122 : Cond.selects RX4 yX4_add yX4_add ∈ wA0 := sB122 _ List.mem_cons_self
theorem sB123 : ∀ w ∈ wB123, w ∈ wA0 := fun w h => sB122 w (List.mem_cons_of_mem _ h)
theorem mB123 : Cond.code yX4_hasWritten cX4_hasWritten 3 (some .boolean) ∈ wA0 := sB123 _ List.mem_cons_self
theorem sB124 : ∀ w ∈ wB124, w ∈ wA0 := fun w h => sB123 w (List.mem_cons_of_mem _ h)
theorem mB124 : Cond.code yX4_bufferOf cX4_bufferOf 3 (some .int) ∈ wA0 := sB124 _ List.mem_cons_self
theorem sB125 : ∀ w ∈ wB125, w ∈ wA0 := fun w h => sB124 w (List.mem_cons_of_mem _ h)
theorem mB125 : Cond.code yX4_hasRead cX4_hasRead 3 (some .boolean) ∈ wA0 := sB125 _ List.mem_cons_self
theorem sB126 : ∀ w ∈ wB126, w ∈ wA0 := fun w h => sB125 w (List.mem_cons_of_mem _ h)
theorem mB126 : Cond.code yX5_newest cX5_newest 2 (some .int) ∈ wA0 := sB126 _ List.mem_cons_self
theorem sB127 : ∀ w ∈ wB127, w ∈ wA0 := fun w h => sB126 w (List.mem_cons_of_mem _ h)
theorem mB127 : Cond.code yX4_recordedVersion cX4_recordedVersion 3 (some .int) ∈ wA0 := sB127 _ List.mem_cons_self
theorem sB128 : ∀ w ∈ wB128, w ∈ wA0 := fun w h => sB127 w (List.mem_cons_of_mem _ h)
theorem mB128 : Cond.code yX5_valueOfVersion cX5_valueOfVersion 3 (some .int) ∈ wA0 := sB128 _ List.mem_cons_self
theorem sB129 : ∀ w ∈ wB129, w ∈ wA0 := fun w h => sB128 w (List.mem_cons_of_mem _ h)
theorem mB129 : Cond.methodLink RX2 59 yX4_hasWritten ∈ wA0 := sB129 _ List.mem_cons_self
theorem sB130 : ∀ w ∈ wB130, w ∈ wA0 := fun w h => sB129 w (List.mem_cons_of_mem _ h)
theorem mB130 : Cond.instanceMethod yX4_hasWritten ∈ wA0 := sB130 _ List.mem_cons_self
theorem sB131 : ∀ w ∈ wB131, w ∈ wA0 := fun w h => sB130 w (List.mem_cons_of_mem _ h)
theorem mB131 : Cond.selects RX4 yX4_hasWritten yX4_hasWritten ∈ wA0 := sB131 _ List.mem_cons_self
theorem sB132 : ∀ w ∈ wB132, w ∈ wA0 := fun w h => sB131 w (List.mem_cons_of_mem _ h)
theorem mB132 : Cond.methodLink RX2 63 yX4_bufferOf ∈ wA0 := sB132 _ List.mem_cons_self
theorem sB133 : ∀ w ∈ wB133, w ∈ wA0 := fun w h => sB132 w (List.mem_cons_of_mem _ h)
theorem mB133 : Cond.instanceMethod yX4_bufferOf ∈ wA0 := sB133 _ List.mem_cons_self
theorem sB134 : ∀ w ∈ wB134, w ∈ wA0 := fun w h => sB133 w (List.mem_cons_of_mem _ h)
theorem mB134 : Cond.selects RX4 yX4_bufferOf yX4_bufferOf ∈ wA0 := sB134 _ List.mem_cons_self
theorem sB135 : ∀ w ∈ wB135, w ∈ wA0 := fun w h => sB134 w (List.mem_cons_of_mem _ h)
theorem mB135 : Cond.methodLink RX2 67 yX4_hasRead ∈ wA0 := sB135 _ List.mem_cons_self
theorem sB136 : ∀ w ∈ wB136, w ∈ wA0 := fun w h => sB135 w (List.mem_cons_of_mem _ h)
theorem mB136 : Cond.instanceMethod yX4_hasRead ∈ wA0 := sB136 _ List.mem_cons_self
theorem sB137 : ∀ w ∈ wB137, w ∈ wA0 := fun w h => sB136 w (List.mem_cons_of_mem _ h)
theorem mB137 : Cond.selects RX4 yX4_hasRead yX4_hasRead ∈ wA0 := sB137 _ List.mem_cons_self
theorem sB138 : ∀ w ∈ wB138, w ∈ wA0 := fun w h => sB137 w (List.mem_cons_of_mem _ h)
theorem mB138 : Cond.methodLink RX2 70 yX5_newest ∈ wA0 := sB138 _ List.mem_cons_self
theorem sB139 : ∀ w ∈ wB139, w ∈ wA0 := fun w h => sB138 w (List.mem_cons_of_mem _ h)
theorem mB139 : Cond.instanceMethod yX5_newest ∈ wA0 := sB139 _ List.mem_cons_self
theorem sB140 : ∀ w ∈ wB140, w ∈ wA0 := fun w h => sB139 w (List.mem_cons_of_mem _ h)
theorem mB140 : Cond.selects RX5 yX5_newest yX5_newest ∈ wA0 := sB140 _ List.mem_cons_self
theorem sB141 : ∀ w ∈ wB141, w ∈ wA0 := fun w h => sB140 w (List.mem_cons_of_mem _ h)
theorem mB141 : Cond.methodLink RX2 73 yX4_recordVersion ∈ wA0 := sB141 _ List.mem_cons_self
theorem sB142 : ∀ w ∈ wB142, w ∈ wA0 := fun w h => sB141 w (List.mem_cons_of_mem _ h)
theorem mB142 : Cond.methodLink RX2 77 yX4_recordedVersion ∈ wA0 := sB142 _ List.mem_cons_self
theorem sB143 : ∀ w ∈ wB143, w ∈ wA0 := fun w h => sB142 w (List.mem_cons_of_mem _ h)
theorem mB143 : Cond.instanceMethod yX4_recordedVersion ∈ wA0 := sB143 _ List.mem_cons_self
theorem sB144 : ∀ w ∈ wB144, w ∈ wA0 := fun w h => sB143 w (List.mem_cons_of_mem _ h)
theorem mB144 : Cond.selects RX4 yX4_recordedVersion yX4_recordedVersion ∈ wA0 := sB144 _ List.mem_cons_self
theorem sB145 : ∀ w ∈ wB145, w ∈ wA0 := fun w h => sB144 w (List.mem_cons_of_mem _ h)
theorem mB145 : Cond.methodLink RX2 80 yX5_valueOfVersion ∈ wA0 := sB145 _ List.mem_cons_self
theorem sB146 : ∀ w ∈ wB146, w ∈ wA0 := fun w h => sB145 w (List.mem_cons_of_mem _ h)
theorem mB146 : Cond.instanceMethod yX5_valueOfVersion ∈ wA0 := sB146 _ List.mem_cons_self
theorem sB147 : ∀ w ∈ wB147, w ∈ wA0 := fun w h => sB146 w (List.mem_cons_of_mem _ h)
theorem mB147 : Cond.selects RX5 yX5_valueOfVersion yX5_valueOfVersion ∈ wA0 := sB147 _ List.mem_cons_self
theorem sB148 : ∀ w ∈ wB148, w ∈ wA0 := fun w h => sB147 w (List.mem_cons_of_mem _ h)
theorem mB148 : Cond.code yX2_readKey cX2_readKey 3 (some .int) ∈ wA0 := sB148 _ List.mem_cons_self
theorem sB149 : ∀ w ∈ wB149, w ∈ wA0 := fun w h => sB148 w (List.mem_cons_of_mem _ h)
theorem mB149 : Cond.code yX4_writtenKeys cX4_writtenKeys 4 (some .int) ∈ wA0 := sB149 _ List.mem_cons_self
theorem sB150 : ∀ w ∈ wB150, w ∈ wA0 := fun w h => sB149 w (List.mem_cons_of_mem _ h)
theorem mB150 : Cond.methodLink RX4 54 yX4_hasWritten ∈ wA0 := sB150 _ List.mem_cons_self
theorem sB151 : ∀ w ∈ wB151, w ∈ wA0 := fun w h => sB150 w (List.mem_cons_of_mem _ h)
theorem mB151 : Cond.code yX2_writeKey cX2_writeKey 4 (some .int) ∈ wA0 := sB151 _ List.mem_cons_self
theorem sB152 : ∀ w ∈ wB152, w ∈ wA0 := fun w h => sB151 w (List.mem_cons_of_mem _ h)
theorem mB152 : Cond.methodLink RX2 83 yX4_bufferValue ∈ wA0 := sB152 _ List.mem_cons_self
theorem sB153 : ∀ w ∈ wB153, w ∈ wA0 := fun w h => sB152 w (List.mem_cons_of_mem _ h)
theorem mB153 : Cond.methodLink RX2 86 yX4_writtenKeys ∈ wA0 := sB153 _ List.mem_cons_self
theorem sB154 : ∀ w ∈ wB154, w ∈ wA0 := fun w h => sB153 w (List.mem_cons_of_mem _ h)
theorem mB154 : Cond.instanceMethod yX4_writtenKeys ∈ wA0 := sB154 _ List.mem_cons_self
theorem sB155 : ∀ w ∈ wB155, w ∈ wA0 := fun w h => sB154 w (List.mem_cons_of_mem _ h)
theorem mB155 : Cond.selects RX4 yX4_writtenKeys yX4_writtenKeys ∈ wA0 := sB155 _ List.mem_cons_self
theorem sB156 : ∀ w ∈ wB156, w ∈ wA0 := fun w h => sB155 w (List.mem_cons_of_mem _ h)
theorem mB156 : Cond.code yX2_hasConflict cX2_hasConflict 3 (some .boolean) ∈ wA0 := sB156 _ List.mem_cons_self
theorem sB157 : ∀ w ∈ wB157, w ∈ wA0 := fun w h => sB156 w (List.mem_cons_of_mem _ h)
theorem mB157 : Cond.code yX4_hasTouched cX4_hasTouched 3 (some .boolean) ∈ wA0 := sB157 _ List.mem_cons_self
theorem sB158 : ∀ w ∈ wB158, w ∈ wA0 := fun w h => sB157 w (List.mem_cons_of_mem _ h)
theorem mB158 : Cond.methodLink RX4 50 yX4_hasRead ∈ wA0 := sB158 _ List.mem_cons_self
theorem sB159 : ∀ w ∈ wB159, w ∈ wA0 := fun w h => sB158 w (List.mem_cons_of_mem _ h)
theorem mB159 : Cond.code yX4_locks cX4_locks 4 (some .boolean) ∈ wA0 := sB159 _ List.mem_cons_self
theorem sB160 : ∀ w ∈ wB160, w ∈ wA0 := fun w h => sB159 w (List.mem_cons_of_mem _ h)
theorem mB160 : Cond.methodLink RX4 57 yX4_hasTouched ∈ wA0 := sB160 _ List.mem_cons_self
theorem sB161 : ∀ w ∈ wB161, w ∈ wA0 := fun w h => sB160 w (List.mem_cons_of_mem _ h)
theorem mB161 : Cond.instanceMethod yX4_hasTouched ∈ wA0 := sB161 _ List.mem_cons_self
theorem sB162 : ∀ w ∈ wB162, w ∈ wA0 := fun w h => sB161 w (List.mem_cons_of_mem _ h)
theorem mB162 : Cond.selects RX4 yX4_hasTouched yX4_hasTouched ∈ wA0 := sB162 _ List.mem_cons_self
theorem sB163 : ∀ w ∈ wB163, w ∈ wA0 := fun w h => sB162 w (List.mem_cons_of_mem _ h)
theorem mB163 : Cond.code yX4_isLockedOut cX4_isLockedOut 3 (some .boolean) ∈ wA0 := sB163 _ List.mem_cons_self
theorem sB164 : ∀ w ∈ wB164, w ∈ wA0 := fun w h => sB163 w (List.mem_cons_of_mem _ h)
theorem mB164 : Cond.methodLink RX4 60 yX4_locks ∈ wA0 := sB164 _ List.mem_cons_self
theorem sB165 : ∀ w ∈ wB165, w ∈ wA0 := fun w h => sB164 w (List.mem_cons_of_mem _ h)
theorem mB165 : Cond.instanceMethod yX4_locks ∈ wA0 := sB165 _ List.mem_cons_self
theorem sB166 : ∀ w ∈ wB166, w ∈ wA0 := fun w h => sB165 w (List.mem_cons_of_mem _ h)
theorem mB166 : Cond.selects RX4 yX4_locks yX4_locks ∈ wA0 := sB166 _ List.mem_cons_self
theorem sB167 : ∀ w ∈ wB167, w ∈ wA0 := fun w h => sB166 w (List.mem_cons_of_mem _ h)
theorem mB167 : Cond.fieldLink RX2 133 "CommitWaitStore$Server" "greatestAssigned" "I" ∈ wA0 := sB167 _ List.mem_cons_self
theorem sB168 : ∀ w ∈ wB168, w ∈ wA0 := fun w h => sB167 w (List.mem_cons_of_mem _ h)
theorem mB168 : Cond.methodLink RX2 109 Lib.Math.max.name ∈ wA0 := sB168 _ List.mem_cons_self
theorem sB169 : ∀ w ∈ wB169, w ∈ wA0 := fun w h => sB168 w (List.mem_cons_of_mem _ h)
theorem mB169 : Cond.static Lib.Math.max.name ∈ wA0 := sB169 _ List.mem_cons_self
theorem sB170 : ∀ w ∈ wB170, w ∈ wA0 := fun w h => sB169 w (List.mem_cons_of_mem _ h)
theorem mB170 : Cond.code Lib.Math.max.name Lib.Math.max.code 2 (some .int) ∈ wA0 := sB170 _ List.mem_cons_self
theorem sB171 : ∀ w ∈ wB171, w ∈ wA0 := fun w h => sB170 w (List.mem_cons_of_mem _ h)
theorem mB171 : Cond.methodLink RX2 160 yX1_latestAt ∈ wA0 := sB171 _ List.mem_cons_self
theorem sB172 : ∀ w ∈ wB172, w ∈ wA0 := fun w h => sB171 w (List.mem_cons_of_mem _ h)
theorem mB172 : Cond.code yX2_nextTimestampOf cX2_nextTimestampOf 3 (some .int) ∈ wA0 := sB172 _ List.mem_cons_self
theorem sB173 : ∀ w ∈ wB173, w ∈ wA0 := fun w h => sB172 w (List.mem_cons_of_mem _ h)
theorem mB173 : Cond.code yX5_timestampOf cX5_timestampOf 3 (some .int) ∈ wA0 := sB173 _ List.mem_cons_self
theorem sB174 : ∀ w ∈ wB174, w ∈ wA0 := fun w h => sB173 w (List.mem_cons_of_mem _ h)
theorem mB174 : Cond.code yX4_greatestReaderTimestamp cX4_greatestReaderTimestamp 4 (some .int) ∈ wA0 := sB174 _ List.mem_cons_self
theorem sB175 : ∀ w ∈ wB175, w ∈ wA0 := fun w h => sB174 w (List.mem_cons_of_mem _ h)
theorem mB175 : Cond.methodLink RX4 63 Lib.Math.max.name ∈ wA0 := sB175 _ List.mem_cons_self
theorem sB176 : ∀ w ∈ wB176, w ∈ wA0 := fun w h => sB175 w (List.mem_cons_of_mem _ h)
theorem mB176 : Cond.fieldLink RX2 96 "CommitWaitStore$Transactions" "server" "[I" ∈ wA0 := sB176 _ List.mem_cons_self
theorem sB177 : ∀ w ∈ wB177, w ∈ wA0 := fun w h => sB176 w (List.mem_cons_of_mem _ h)
theorem mB177 : Cond.methodLink RX2 89 yX2_hasConflict ∈ wA0 := sB177 _ List.mem_cons_self
theorem sB178 : ∀ w ∈ wB178, w ∈ wA0 := fun w h => sB177 w (List.mem_cons_of_mem _ h)
theorem mB178 : Cond.instanceMethod yX2_hasConflict ∈ wA0 := sB178 _ List.mem_cons_self
theorem sB179 : ∀ w ∈ wB179, w ∈ wA0 := fun w h => sB178 w (List.mem_cons_of_mem _ h)
theorem mB179 : Cond.selects RX2 yX2_hasConflict yX2_hasConflict ∈ wA0 := sB179 _ List.mem_cons_self
theorem sB180 : ∀ w ∈ wB180, w ∈ wA0 := fun w h => sB179 w (List.mem_cons_of_mem _ h)
theorem mB180 : Cond.methodLink RX2 93 yX4_isLockedOut ∈ wA0 := sB180 _ List.mem_cons_self
theorem sB181 : ∀ w ∈ wB181, w ∈ wA0 := fun w h => sB180 w (List.mem_cons_of_mem _ h)
theorem mB181 : Cond.instanceMethod yX4_isLockedOut ∈ wA0 := sB181 _ List.mem_cons_self
theorem sB182 : ∀ w ∈ wB182, w ∈ wA0 := fun w h => sB181 w (List.mem_cons_of_mem _ h)
theorem mB182 : Cond.selects RX4 yX4_isLockedOut yX4_isLockedOut ∈ wA0 := sB182 _ List.mem_cons_self
theorem sB183 : ∀ w ∈ wB183, w ∈ wA0 := fun w h => sB182 w (List.mem_cons_of_mem _ h)
theorem mB183 : Cond.methodLink RX2 100 yX2_nextTimestampOf ∈ wA0 := sB183 _ List.mem_cons_self
theorem sB184 : ∀ w ∈ wB184, w ∈ wA0 := fun w h => sB183 w (List.mem_cons_of_mem _ h)
theorem mB184 : Cond.instanceMethod yX2_nextTimestampOf ∈ wA0 := sB184 _ List.mem_cons_self
theorem sB185 : ∀ w ∈ wB185, w ∈ wA0 := fun w h => sB184 w (List.mem_cons_of_mem _ h)
theorem mB185 : Cond.selects RX2 yX2_nextTimestampOf yX2_nextTimestampOf ∈ wA0 := sB185 _ List.mem_cons_self
theorem sB186 : ∀ w ∈ wB186, w ∈ wA0 := fun w h => sB185 w (List.mem_cons_of_mem _ h)
theorem mB186 : Cond.methodLink RX2 103 yX4_hasTouched ∈ wA0 := sB186 _ List.mem_cons_self
theorem sB187 : ∀ w ∈ wB187, w ∈ wA0 := fun w h => sB186 w (List.mem_cons_of_mem _ h)
theorem mB187 : Cond.methodLink RX2 106 yX5_timestampOf ∈ wA0 := sB187 _ List.mem_cons_self
theorem sB188 : ∀ w ∈ wB188, w ∈ wA0 := fun w h => sB187 w (List.mem_cons_of_mem _ h)
theorem mB188 : Cond.instanceMethod yX5_timestampOf ∈ wA0 := sB188 _ List.mem_cons_self
theorem sB189 : ∀ w ∈ wB189, w ∈ wA0 := fun w h => sB188 w (List.mem_cons_of_mem _ h)
theorem mB189 : Cond.selects RX5 yX5_timestampOf yX5_timestampOf ∈ wA0 := sB189 _ List.mem_cons_self
theorem sB190 : ∀ w ∈ wB190, w ∈ wA0 := fun w h => sB189 w (List.mem_cons_of_mem _ h)
theorem mB190 : Cond.methodLink RX2 114 yX4_greatestReaderTimestamp ∈ wA0 := sB190 _ List.mem_cons_self
theorem sB191 : ∀ w ∈ wB191, w ∈ wA0 := fun w h => sB190 w (List.mem_cons_of_mem _ h)
theorem mB191 : Cond.instanceMethod yX4_greatestReaderTimestamp ∈ wA0 := sB191 _ List.mem_cons_self
theorem sB192 : ∀ w ∈ wB192, w ∈ wA0 := fun w h => sB191 w (List.mem_cons_of_mem _ h)
theorem mB192 : Cond.selects RX4 yX4_greatestReaderTimestamp yX4_greatestReaderTimestamp ∈ wA0 := sB192 _ List.mem_cons_self
theorem sB193 : ∀ w ∈ wB193, w ∈ wA0 := fun w h => sB192 w (List.mem_cons_of_mem _ h)
theorem mB193 : Cond.code yX2_commitOutcome cX2_commitOutcome 4 (some .int) ∈ wA0 := sB193 _ List.mem_cons_self
theorem sB194 : ∀ w ∈ wB194, w ∈ wA0 := fun w h => sB193 w (List.mem_cons_of_mem _ h)
theorem mB194 : Cond.code yX2_makeAborted cX2_makeAborted 2 (some .int) ∈ wA0 := sB194 _ List.mem_cons_self
theorem sB195 : ∀ w ∈ wB195, w ∈ wA0 := fun w h => sB194 w (List.mem_cons_of_mem _ h)
theorem mB195 : Cond.fieldLink RX2 124 "CommitWaitStore$Transactions" "status" "[I" ∈ wA0 := sB195 _ List.mem_cons_self
theorem sB196 : ∀ w ∈ wB196, w ∈ wA0 := fun w h => sB195 w (List.mem_cons_of_mem _ h)
theorem mB196 : Cond.fieldLink RX2 127 "CommitWaitStore$Transactions" "timestamp" "[I" ∈ wA0 := sB196 _ List.mem_cons_self
theorem sB197 : ∀ w ∈ wB197, w ∈ wA0 := fun w h => sB196 w (List.mem_cons_of_mem _ h)
theorem mB197 : Cond.fieldLink RX2 130 "CommitWaitStore$Transactions" "requestTime" "[I" ∈ wA0 := sB197 _ List.mem_cons_self
theorem sB198 : ∀ w ∈ wB198, w ∈ wA0 := fun w h => sB197 w (List.mem_cons_of_mem _ h)
theorem mB198 : Cond.methodLink RX2 136 yX1_isSoundAt ∈ wA0 := sB198 _ List.mem_cons_self
theorem sB199 : ∀ w ∈ wB199, w ∈ wA0 := fun w h => sB198 w (List.mem_cons_of_mem _ h)
theorem mB199 : Cond.instanceMethod yX1_isSoundAt ∈ wA0 := sB199 _ List.mem_cons_self
theorem sB200 : ∀ w ∈ wB200, w ∈ wA0 := fun w h => sB199 w (List.mem_cons_of_mem _ h)
theorem mB200 : Cond.selects RX1 yX1_isSoundAt yX1_isSoundAt ∈ wA0 := sB200 _ List.mem_cons_self
theorem sB201 : ∀ w ∈ wB201, w ∈ wA0 := fun w h => sB200 w (List.mem_cons_of_mem _ h)
theorem mB201 : Cond.code yX2_makeWaiting cX2_makeWaiting 4 none ∈ wA0 := sB201 _ List.mem_cons_self
theorem sB202 : ∀ w ∈ wB202, w ∈ wA0 := fun w h => sB201 w (List.mem_cons_of_mem _ h)
theorem mB202 : Cond.methodLink RX2 117 yX2_makeAborted ∈ wA0 := sB202 _ List.mem_cons_self
theorem sB203 : ∀ w ∈ wB203, w ∈ wA0 := fun w h => sB202 w (List.mem_cons_of_mem _ h)
theorem mB203 : Cond.instanceMethod yX2_makeAborted ∈ wA0 := sB203 _ List.mem_cons_self
theorem sB204 : ∀ w ∈ wB204, w ∈ wA0 := fun w h => sB203 w (List.mem_cons_of_mem _ h)
theorem mB204 : Cond.selects RX2 yX2_makeAborted yX2_makeAborted ∈ wA0 := sB204 _ List.mem_cons_self
theorem sB205 : ∀ w ∈ wB205, w ∈ wA0 := fun w h => sB204 w (List.mem_cons_of_mem _ h)
theorem mB205 : Cond.methodLink RX2 120 yX2_makeWaiting ∈ wA0 := sB205 _ List.mem_cons_self
theorem sB206 : ∀ w ∈ wB206, w ∈ wA0 := fun w h => sB205 w (List.mem_cons_of_mem _ h)
theorem mB206 : Cond.instanceMethod yX2_makeWaiting ∈ wA0 := sB206 _ List.mem_cons_self
theorem sB207 : ∀ w ∈ wB207, w ∈ wA0 := fun w h => sB206 w (List.mem_cons_of_mem _ h)
theorem mB207 : Cond.selects RX2 yX2_makeWaiting yX2_makeWaiting ∈ wA0 := sB207 _ List.mem_cons_self
theorem sB208 : ∀ w ∈ wB208, w ∈ wA0 := fun w h => sB207 w (List.mem_cons_of_mem _ h)
theorem mB208 : Cond.code yX2_carryOut cX2_carryOut 3 none ∈ wA0 := sB208 _ List.mem_cons_self
theorem sB209 : ∀ w ∈ wB209, w ∈ wA0 := fun w h => sB208 w (List.mem_cons_of_mem _ h)
theorem mB209 : Cond.code yX5_add cX5_add 5 none ∈ wA0 := sB209 _ List.mem_cons_self
theorem sB210 : ∀ w ∈ wB210, w ∈ wA0 := fun w h => sB209 w (List.mem_cons_of_mem _ h)
theorem mB210 : Cond.fieldLink RX2 139 "CommitWaitStore$Transactions" "commitTime" "[I" ∈ wA0 := sB210 _ List.mem_cons_self
theorem sB211 : ∀ w ∈ wB211, w ∈ wA0 := fun w h => sB210 w (List.mem_cons_of_mem _ h)
theorem mB211 : Cond.methodLink RX2 142 yX5_add ∈ wA0 := sB211 _ List.mem_cons_self
theorem sB212 : ∀ w ∈ wB212, w ∈ wA0 := fun w h => sB211 w (List.mem_cons_of_mem _ h)
theorem mB212 : Cond.instanceMethod yX5_add ∈ wA0 := sB212 _ List.mem_cons_self
theorem sB213 : ∀ w ∈ wB213, w ∈ wA0 := fun w h => sB212 w (List.mem_cons_of_mem _ h)
theorem mB213 : Cond.selects RX5 yX5_add yX5_add ∈ wA0 := sB213 _ List.mem_cons_self
theorem sB214 : ∀ w ∈ wB214, w ∈ wA0 := fun w h => sB213 w (List.mem_cons_of_mem _ h)
theorem mB214 : Cond.code yX2_makeCommitted cX2_makeCommitted 4 none ∈ wA0 := sB214 _ List.mem_cons_self
theorem sB215 : ∀ w ∈ wB215, w ∈ wA0 := fun w h => sB214 w (List.mem_cons_of_mem _ h)
theorem mB215 : Cond.code yX2_canAdvance cX2_canAdvance 2 (some .boolean) ∈ wA0 := sB215 _ List.mem_cons_self
theorem sB216 : ∀ w ∈ wB216, w ∈ wA0 := fun w h => sB215 w (List.mem_cons_of_mem _ h)
theorem mB216 : Cond.constant RX2 144 (1000000) ∈ wA0 := sB216 _ List.mem_cons_self
theorem sB217 : ∀ w ∈ wB217, w ∈ wA0 := fun w h => sB216 w (List.mem_cons_of_mem _ h)
theorem mB217 : Cond.methodLink RX2 151 yX1_earliestAt ∈ wA0 := sB217 _ List.mem_cons_self
theorem sB218 : ∀ w ∈ wB218, w ∈ wA0 := fun w h => sB217 w (List.mem_cons_of_mem _ h)
theorem mB218 : Cond.instanceMethod yX1_earliestAt ∈ wA0 := sB218 _ List.mem_cons_self
theorem sB219 : ∀ w ∈ wB219, w ∈ wA0 := fun w h => sB218 w (List.mem_cons_of_mem _ h)
theorem mB219 : Cond.selects RX1 yX1_earliestAt yX1_earliestAt ∈ wA0 := sB219 _ List.mem_cons_self
theorem sB220 : ∀ w ∈ wB220, w ∈ wA0 := fun w h => sB219 w (List.mem_cons_of_mem _ h)
theorem mB220 : Cond.code yX2_ticksUntilCommitted cX2_ticksUntilCommitted 6 (some .int) ∈ wA0 := sB220 _ List.mem_cons_self
theorem sB221 : ∀ w ∈ wB221, w ∈ wA0 := fun w h => sB220 w (List.mem_cons_of_mem _ h)
theorem mB221 : Cond.methodLink RX2 145 yX2_ticksUntilCommitted ∈ wA0 := sB221 _ List.mem_cons_self
theorem sB222 : ∀ w ∈ wB222, w ∈ wA0 := fun w h => sB221 w (List.mem_cons_of_mem _ h)
theorem mB222 : Cond.instanceMethod yX2_ticksUntilCommitted ∈ wA0 := sB222 _ List.mem_cons_self
theorem sB223 : ∀ w ∈ wB223, w ∈ wA0 := fun w h => sB222 w (List.mem_cons_of_mem _ h)
theorem mB223 : Cond.selects RX2 yX2_ticksUntilCommitted yX2_ticksUntilCommitted ∈ wA0 := sB223 _ List.mem_cons_self
theorem sB224 : ∀ w ∈ wB224, w ∈ wA0 := fun w h => sB223 w (List.mem_cons_of_mem _ h)
theorem mB224 : Cond.methodLink RX2 148 yX2_makeCommitted ∈ wA0 := sB224 _ List.mem_cons_self
theorem sB225 : ∀ w ∈ wB225, w ∈ wA0 := fun w h => sB224 w (List.mem_cons_of_mem _ h)
theorem mB225 : Cond.instanceMethod yX2_makeCommitted ∈ wA0 := sB225 _ List.mem_cons_self
theorem sB226 : ∀ w ∈ wB226, w ∈ wA0 := fun w h => sB225 w (List.mem_cons_of_mem _ h)
theorem mB226 : Cond.selects RX2 yX2_makeCommitted yX2_makeCommitted ∈ wA0 := sB226 _ List.mem_cons_self
theorem sB227 : ∀ w ∈ wB227, w ∈ wA0 := fun w h => sB226 w (List.mem_cons_of_mem _ h)
theorem mB227 : Cond.code yX2_advanceBy cX2_advanceBy 5 (some .int) ∈ wA0 := sB227 _ List.mem_cons_self
theorem sB228 : ∀ w ∈ wB228, w ∈ wA0 := fun w h => sB227 w (List.mem_cons_of_mem _ h)
theorem mB228 : Cond.code yX2_synchronizeClock cX2_synchronizeClock 4 (some .int) ∈ wA0 := sB228 _ List.mem_cons_self
theorem sB229 : ∀ w ∈ wB229, w ∈ wA0 := fun w h => sB228 w (List.mem_cons_of_mem _ h)
theorem mB229 : Cond.methodLink RX2 154 yX1_offsetAt ∈ wA0 := sB229 _ List.mem_cons_self
theorem sB230 : ∀ w ∈ wB230, w ∈ wA0 := fun w h => sB229 w (List.mem_cons_of_mem _ h)
theorem mB230 : Cond.methodLink RX2 157 yX1_setOffset ∈ wA0 := sB230 _ List.mem_cons_self
theorem sB231 : ∀ w ∈ wB231, w ∈ wA0 := fun w h => sB230 w (List.mem_cons_of_mem _ h)
theorem mB231 : Cond.instanceMethod yX1_setOffset ∈ wA0 := sB231 _ List.mem_cons_self
theorem sB232 : ∀ w ∈ wB232, w ∈ wA0 := fun w h => sB231 w (List.mem_cons_of_mem _ h)
theorem mB232 : Cond.selects RX1 yX1_setOffset yX1_setOffset ∈ wA0 := sB232 _ List.mem_cons_self
theorem sB233 : ∀ w ∈ wB233, w ∈ wA0 := fun w h => sB232 w (List.mem_cons_of_mem _ h)
theorem mB233 : Cond.methodLink RX2 163 Lib.Math.min.name ∈ wA0 := sB233 _ List.mem_cons_self
theorem sB234 : ∀ w ∈ wB234, w ∈ wA0 := fun w h => sB233 w (List.mem_cons_of_mem _ h)
theorem mB234 : Cond.code yX2_safeTimeNow cX2_safeTimeNow 3 (some .int) ∈ wA0 := sB234 _ List.mem_cons_self
theorem sB235 : ∀ w ∈ wB235, w ∈ wA0 := fun w h => sB234 w (List.mem_cons_of_mem _ h)
theorem mB235 : Cond.methodLink RX2 166 yX1_ticksUntilLatestPasses ∈ wA0 := sB235 _ List.mem_cons_self
theorem sB236 : ∀ w ∈ wB236, w ∈ wA0 := fun w h => sB235 w (List.mem_cons_of_mem _ h)
theorem mB236 : Cond.instanceMethod yX1_ticksUntilLatestPasses ∈ wA0 := sB236 _ List.mem_cons_self
theorem sB237 : ∀ w ∈ wB237, w ∈ wA0 := fun w h => sB236 w (List.mem_cons_of_mem _ h)
theorem mB237 : Cond.selects RX1 yX1_ticksUntilLatestPasses yX1_ticksUntilLatestPasses ∈ wA0 := sB237 _ List.mem_cons_self
theorem sB238 : ∀ w ∈ wB238, w ∈ wA0 := fun w h => sB237 w (List.mem_cons_of_mem _ h)
theorem mB238 : Cond.code yX2_ticksUntilSafeAt cX2_ticksUntilSafeAt 5 (some .int) ∈ wA0 := sB238 _ List.mem_cons_self
theorem sB239 : ∀ w ∈ wB239, w ∈ wA0 := fun w h => sB238 w (List.mem_cons_of_mem _ h)
theorem mB239 : Cond.code yX3_init cX3_init 1 none ∈ wA0 := sB239 _ List.mem_cons_self
theorem sB240 : ∀ w ∈ wB240, w ∈ wA0 := fun w h => sB239 w (List.mem_cons_of_mem _ h)
theorem mB240 : Cond.methodLink RX3 3 objectInit ∈ wA0 := sB240 _ List.mem_cons_self
theorem sB241 : ∀ w ∈ wB241, w ∈ wA0 := fun w h => sB240 w (List.mem_cons_of_mem _ h)
theorem mB241 : Cond.fieldLink RX3 9 "CommitWaitStore$Text" "arguments" "[I" ∈ wA0 := sB241 _ List.mem_cons_self
theorem sB242 : ∀ w ∈ wB242, w ∈ wA0 := fun w h => sB241 w (List.mem_cons_of_mem _ h)
theorem mB242 : Cond.arrayClass .char ∈ wA0 := sB242 _ List.mem_cons_self
theorem sB243 : ∀ w ∈ wB243, w ∈ wA0 := fun w h => sB242 w (List.mem_cons_of_mem _ h)
theorem mB243 : Cond.fieldLink RX3 15 "CommitWaitStore$Text" "characters" "[C" ∈ wA0 := sB243 _ List.mem_cons_self
theorem sB244 : ∀ w ∈ wB244, w ∈ wA0 := fun w h => sB243 w (List.mem_cons_of_mem _ h)
theorem mB244 : Cond.code yX3_isFull cX3_isFull 1 (some .boolean) ∈ wA0 := sB244 _ List.mem_cons_self
theorem sB245 : ∀ w ∈ wB245, w ∈ wA0 := fun w h => sB244 w (List.mem_cons_of_mem _ h)
theorem mB245 : Cond.fieldLink RX3 19 "CommitWaitStore$Text" "length" "I" ∈ wA0 := sB245 _ List.mem_cons_self
theorem sB246 : ∀ w ∈ wB246, w ∈ wA0 := fun w h => sB245 w (List.mem_cons_of_mem _ h)
theorem mB246 : Cond.code yX3_append cX3_append 2 none ∈ wA0 := sB246 _ List.mem_cons_self
theorem sB247 : ∀ w ∈ wB247, w ∈ wA0 := fun w h => sB246 w (List.mem_cons_of_mem _ h)
theorem mB247 : Cond.code yX3_rewind cX3_rewind 1 none ∈ wA0 := sB247 _ List.mem_cons_self
theorem sB248 : ∀ w ∈ wB248, w ∈ wA0 := fun w h => sB247 w (List.mem_cons_of_mem _ h)
theorem mB248 : Cond.fieldLink RX3 23 "CommitWaitStore$Text" "position" "I" ∈ wA0 := sB248 _ List.mem_cons_self
theorem sB249 : ∀ w ∈ wB249, w ∈ wA0 := fun w h => sB248 w (List.mem_cons_of_mem _ h)
theorem mB249 : Cond.code yJ0_isLatin1_aae02 cJ0_isLatin1_aae02 1 (some .boolean) ∈ wA0 := sB249 _ List.mem_cons_self
theorem sB250 : ∀ w ∈ wB250, w ∈ wA0 := fun w h => sB249 w (List.mem_cons_of_mem _ h)
theorem mB250 : Cond.fieldLink RJ0 38 "java/lang/String" "COMPACT_STRINGS" "Z" ∈ wA0 := sB250 _ List.mem_cons_self
theorem sB251 : ∀ w ∈ wB251, w ∈ wA0 := fun w h => sB250 w (List.mem_cons_of_mem _ h)
theorem mB251 : Cond.fieldLink RJ0 15 "java/lang/String" "coder" "B" ∈ wA0 := sB251 _ List.mem_cons_self
theorem sB252 : ∀ w ∈ wB252, w ∈ wA0 := fun w h => sB251 w (List.mem_cons_of_mem _ h)
theorem mB252 : Cond.code yJ0_coder_7d493 cJ0_coder_7d493 1 (some .byte) ∈ wA0 := sB252 _ List.mem_cons_self
theorem sB253 : ∀ w ∈ wB253, w ∈ wA0 := fun w h => sB252 w (List.mem_cons_of_mem _ h)
theorem mB253 : Cond.code yJ0_length_8abf5 cJ0_length_8abf5 1 (some .int) ∈ wA0 := sB253 _ List.mem_cons_self
theorem sB254 : ∀ w ∈ wB254, w ∈ wA0 := fun w h => sB253 w (List.mem_cons_of_mem _ h)
theorem mB254 : Cond.fieldLink RJ0 9 "java/lang/String" "value" "[B" ∈ wA0 := sB254 _ List.mem_cons_self
theorem sB255 : ∀ w ∈ wB255, w ∈ wA0 := fun w h => sB254 w (List.mem_cons_of_mem _ h)
theorem mB255 : Cond.methodLink RJ0 335 yJ0_coder_7d493 ∈ wA0 := sB255 _ List.mem_cons_self
theorem sB256 : ∀ w ∈ wB256, w ∈ wA0 := fun w h => sB255 w (List.mem_cons_of_mem _ h)
theorem mB256 : Cond.instanceMethod yJ0_coder_7d493 ∈ wA0 := sB256 _ List.mem_cons_self
theorem sB257 : ∀ w ∈ wB257, w ∈ wA0 := fun w h => sB256 w (List.mem_cons_of_mem _ h)
theorem mB257 : Cond.selects RJ0 yJ0_coder_7d493 yJ0_coder_7d493 ∈ wA0 := sB257 _ List.mem_cons_self
theorem sB258 : ∀ w ∈ wB258, w ∈ wA0 := fun w h => sB257 w (List.mem_cons_of_mem _ h)
theorem mB258 : Cond.initialized RJ0 ∈ wA0 := sB258 _ List.mem_cons_self
theorem sB259 : ∀ w ∈ wB259, w ∈ wA0 := fun w h => sB258 w (List.mem_cons_of_mem _ h)
theorem mB259 : Cond.code yJ1_canEncode_9a6ad cJ1_canEncode_9a6ad 1 (some .boolean) ∈ wA0 := sB259 _ List.mem_cons_self
theorem sB260 : ∀ w ∈ wB260, w ∈ wA0 := fun w h => sB259 w (List.mem_cons_of_mem _ h)
theorem mB260 : Cond.code yJ1_indexOfChar_4cfef cJ1_indexOfChar_4cfef 6 (some .int) ∈ wA0 := sB260 _ List.mem_cons_self
theorem sB261 : ∀ w ∈ wB261, w ∈ wA0 := fun w h => sB260 w (List.mem_cons_of_mem _ h)
theorem mB261 : Cond.code yJ1_indexOf_4cfef cJ1_indexOf_4cfef 4 (some .int) ∈ wA0 := sB261 _ List.mem_cons_self
theorem sB262 : ∀ w ∈ wB262, w ∈ wA0 := fun w h => sB261 w (List.mem_cons_of_mem _ h)
theorem mB262 : Cond.methodLink RJ1 92 Lib.Math.max.name ∈ wA0 := sB262 _ List.mem_cons_self
theorem sB263 : ∀ w ∈ wB263, w ∈ wA0 := fun w h => sB262 w (List.mem_cons_of_mem _ h)
theorem mB263 : Cond.methodLink RJ1 38 Lib.Math.min.name ∈ wA0 := sB263 _ List.mem_cons_self
theorem sB264 : ∀ w ∈ wB264, w ∈ wA0 := fun w h => sB263 w (List.mem_cons_of_mem _ h)
theorem mB264 : Cond.methodLink RJ1 88 yJ1_canEncode_9a6ad ∈ wA0 := sB264 _ List.mem_cons_self
theorem sB265 : ∀ w ∈ wB265, w ∈ wA0 := fun w h => sB264 w (List.mem_cons_of_mem _ h)
theorem mB265 : Cond.static yJ1_canEncode_9a6ad ∈ wA0 := sB265 _ List.mem_cons_self
theorem sB266 : ∀ w ∈ wB266, w ∈ wA0 := fun w h => sB265 w (List.mem_cons_of_mem _ h)
theorem mB266 : Cond.initialized RJ1 ∈ wA0 := sB266 _ List.mem_cons_self
theorem sB267 : ∀ w ∈ wB267, w ∈ wA0 := fun w h => sB266 w (List.mem_cons_of_mem _ h)
theorem mB267 : Cond.methodLink RJ1 95 yJ1_indexOfChar_4cfef ∈ wA0 := sB267 _ List.mem_cons_self
theorem sB268 : ∀ w ∈ wB268, w ∈ wA0 := fun w h => sB267 w (List.mem_cons_of_mem _ h)
theorem mB268 : Cond.static yJ1_indexOfChar_4cfef ∈ wA0 := sB268 _ List.mem_cons_self
theorem sB269 : ∀ w ∈ wB269, w ∈ wA0 := fun w h => sB268 w (List.mem_cons_of_mem _ h)
theorem mB269 : Cond.code yJ2_length_9d52b cJ2_length_9d52b 1 (some .int) ∈ wA0 := sB269 _ List.mem_cons_self
theorem sB270 : ∀ w ∈ wB270, w ∈ wA0 := fun w h => sB269 w (List.mem_cons_of_mem _ h)
theorem mB270 : Cond.code yJ3_checkFromToIndex_8c36e cJ3_checkFromToIndex_8c36e 4 (some .int) ∈ wA0 := sB270 _ List.mem_cons_self
theorem sB271 : ∀ w ∈ wB271, w ∈ wA0 := fun w h => sB270 w (List.mem_cons_of_mem _ h)
theorem mB271 : Cond.code yJ0_checkBoundsBeginEnd_23922 cJ0_checkBoundsBeginEnd_23922 3 none ∈ wA0 := sB271 _ List.mem_cons_self
theorem sB272 : ∀ w ∈ wB272, w ∈ wA0 := fun w h => sB271 w (List.mem_cons_of_mem _ h)
theorem mB272 : Cond.fieldLink RJ0 1053 "jdk/internal/util/Preconditions" "SIOOBE_FORMATTER" "Ljava/util/function/BiFunction;" ∈ wA0 := sB272 _ List.mem_cons_self
theorem sB273 : ∀ w ∈ wB273, w ∈ wA0 := fun w h => sB272 w (List.mem_cons_of_mem _ h)
theorem mB273 : Cond.methodLink RJ0 1062 yJ3_checkFromToIndex_8c36e ∈ wA0 := sB273 _ List.mem_cons_self
theorem sB274 : ∀ w ∈ wB274, w ∈ wA0 := fun w h => sB273 w (List.mem_cons_of_mem _ h)
theorem mB274 : Cond.static yJ3_checkFromToIndex_8c36e ∈ wA0 := sB274 _ List.mem_cons_self
theorem sB275 : ∀ w ∈ wB275, w ∈ wA0 := fun w h => sB274 w (List.mem_cons_of_mem _ h)
theorem mB275 : Cond.initialized RJ3 ∈ wA0 := sB275 _ List.mem_cons_self
theorem sB276 : ∀ w ∈ wB276, w ∈ wA0 := fun w h => sB275 w (List.mem_cons_of_mem _ h)
theorem mB276 : Cond.code yJ2_checkBoundsBeginEnd_d044e cJ2_checkBoundsBeginEnd_d044e 3 none ∈ wA0 := sB276 _ List.mem_cons_self
theorem sB277 : ∀ w ∈ wB277, w ∈ wA0 := fun w h => sB276 w (List.mem_cons_of_mem _ h)
theorem mB277 : Cond.methodLink RJ2 48 yJ2_length_9d52b ∈ wA0 := sB277 _ List.mem_cons_self
theorem sB278 : ∀ w ∈ wB278, w ∈ wA0 := fun w h => sB277 w (List.mem_cons_of_mem _ h)
theorem mB278 : Cond.static yJ2_length_9d52b ∈ wA0 := sB278 _ List.mem_cons_self
theorem sB279 : ∀ w ∈ wB279, w ∈ wA0 := fun w h => sB278 w (List.mem_cons_of_mem _ h)
theorem mB279 : Cond.initialized RJ2 ∈ wA0 := sB279 _ List.mem_cons_self
theorem sB280 : ∀ w ∈ wB280, w ∈ wA0 := fun w h => sB279 w (List.mem_cons_of_mem _ h)
theorem mB280 : Cond.methodLink RJ2 241 yJ0_checkBoundsBeginEnd_23922 ∈ wA0 := sB280 _ List.mem_cons_self
theorem sB281 : ∀ w ∈ wB281, w ∈ wA0 := fun w h => sB280 w (List.mem_cons_of_mem _ h)
theorem mB281 : Cond.static yJ0_checkBoundsBeginEnd_23922 ∈ wA0 := sB281 _ List.mem_cons_self
theorem sB282 : ∀ w ∈ wB282, w ∈ wA0 := fun w h => sB281 w (List.mem_cons_of_mem _ h)
theorem mB282 : Cond.code yJ2_getChar_3b067 cJ2_getChar_3b067 2 (some .char) ∈ wA0 := sB282 _ List.mem_cons_self
theorem sB283 : ∀ w ∈ wB283, w ∈ wA0 := fun w h => sB282 w (List.mem_cons_of_mem _ h)
theorem mB283 : Cond.fieldLink RJ2 44 "java/lang/StringUTF16" "$assertionsDisabled" "Z" ∈ wA0 := sB283 _ List.mem_cons_self
theorem sB284 : ∀ w ∈ wB284, w ∈ wA0 := fun w h => sB283 w (List.mem_cons_of_mem _ h)
theorem mB284 : Cond.fieldLink RJ2 59 "java/lang/StringUTF16" "HI_BYTE_SHIFT" "I" ∈ wA0 := sB284 _ List.mem_cons_self
theorem sB285 : ∀ w ∈ wB285, w ∈ wA0 := fun w h => sB284 w (List.mem_cons_of_mem _ h)
theorem mB285 : Cond.fieldLink RJ2 63 "java/lang/StringUTF16" "LO_BYTE_SHIFT" "I" ∈ wA0 := sB285 _ List.mem_cons_self
theorem sB286 : ∀ w ∈ wB286, w ∈ wA0 := fun w h => sB285 w (List.mem_cons_of_mem _ h)
theorem mB286 : Cond.code yJ2_indexOfCharUnsafe_4cfef cJ2_indexOfCharUnsafe_4cfef 5 (some .int) ∈ wA0 := sB286 _ List.mem_cons_self
theorem sB287 : ∀ w ∈ wB287, w ∈ wA0 := fun w h => sB286 w (List.mem_cons_of_mem _ h)
theorem mB287 : Cond.methodLink RJ2 71 yJ2_getChar_3b067 ∈ wA0 := sB287 _ List.mem_cons_self
theorem sB288 : ∀ w ∈ wB288, w ∈ wA0 := fun w h => sB287 w (List.mem_cons_of_mem _ h)
theorem mB288 : Cond.static yJ2_getChar_3b067 ∈ wA0 := sB288 _ List.mem_cons_self
theorem sB289 : ∀ w ∈ wB289, w ∈ wA0 := fun w h => sB288 w (List.mem_cons_of_mem _ h)
theorem mB289 : Cond.methodLink RJ2 96 yJ2_checkBoundsBeginEnd_d044e ∈ wA0 := sB289 _ List.mem_cons_self
theorem sB290 : ∀ w ∈ wB290, w ∈ wA0 := fun w h => sB289 w (List.mem_cons_of_mem _ h)
theorem mB290 : Cond.static yJ2_checkBoundsBeginEnd_d044e ∈ wA0 := sB290 _ List.mem_cons_self
theorem sB291 : ∀ w ∈ wB291, w ∈ wA0 := fun w h => sB290 w (List.mem_cons_of_mem _ h)
theorem mB291 : Cond.methodLink RJ2 244 yJ2_indexOfCharUnsafe_4cfef ∈ wA0 := sB291 _ List.mem_cons_self
theorem sB292 : ∀ w ∈ wB292, w ∈ wA0 := fun w h => sB291 w (List.mem_cons_of_mem _ h)
theorem mB292 : Cond.static yJ2_indexOfCharUnsafe_4cfef ∈ wA0 := sB292 _ List.mem_cons_self
theorem sB293 : ∀ w ∈ wB293, w ∈ wA0 := fun w h => sB292 w (List.mem_cons_of_mem _ h)
theorem mB293 : Cond.code yJ2_indexOfChar_4cfef cJ2_indexOfChar_4cfef 4 (some .int) ∈ wA0 := sB293 _ List.mem_cons_self
theorem sB294 : ∀ w ∈ wB294, w ∈ wA0 := fun w h => sB293 w (List.mem_cons_of_mem _ h)
theorem mB294 : Cond.code yJ11_isValidCodePoint_9a6ad cJ11_isValidCodePoint_9a6ad 2 (some .boolean) ∈ wA0 := sB294 _ List.mem_cons_self
theorem sB295 : ∀ w ∈ wB295, w ∈ wA0 := fun w h => sB294 w (List.mem_cons_of_mem _ h)
theorem mB295 : Cond.code yJ11_highSurrogate_5068e cJ11_highSurrogate_5068e 1 (some .char) ∈ wA0 := sB295 _ List.mem_cons_self
theorem sB296 : ∀ w ∈ wB296, w ∈ wA0 := fun w h => sB295 w (List.mem_cons_of_mem _ h)
theorem mB296 : Cond.constant RJ11 110 (55232) ∈ wA0 := sB296 _ List.mem_cons_self
theorem sB297 : ∀ w ∈ wB297, w ∈ wA0 := fun w h => sB296 w (List.mem_cons_of_mem _ h)
theorem mB297 : Cond.code yJ11_lowSurrogate_5068e cJ11_lowSurrogate_5068e 1 (some .char) ∈ wA0 := sB297 _ List.mem_cons_self
theorem sB298 : ∀ w ∈ wB298, w ∈ wA0 := fun w h => sB297 w (List.mem_cons_of_mem _ h)
theorem mB298 : Cond.constant RJ11 76 (56320) ∈ wA0 := sB298 _ List.mem_cons_self
theorem sB299 : ∀ w ∈ wB299, w ∈ wA0 := fun w h => sB298 w (List.mem_cons_of_mem _ h)
theorem mB299 : Cond.methodLink RJ2 164 yJ11_isValidCodePoint_9a6ad ∈ wA0 := sB299 _ List.mem_cons_self
theorem sB300 : ∀ w ∈ wB300, w ∈ wA0 := fun w h => sB299 w (List.mem_cons_of_mem _ h)
theorem mB300 : Cond.static yJ11_isValidCodePoint_9a6ad ∈ wA0 := sB300 _ List.mem_cons_self
theorem sB301 : ∀ w ∈ wB301, w ∈ wA0 := fun w h => sB300 w (List.mem_cons_of_mem _ h)
theorem mB301 : Cond.initialized RJ11 ∈ wA0 := sB301 _ List.mem_cons_self
theorem sB302 : ∀ w ∈ wB302, w ∈ wA0 := fun w h => sB301 w (List.mem_cons_of_mem _ h)
theorem mB302 : Cond.methodLink RJ2 157 yJ11_highSurrogate_5068e ∈ wA0 := sB302 _ List.mem_cons_self
theorem sB303 : ∀ w ∈ wB303, w ∈ wA0 := fun w h => sB302 w (List.mem_cons_of_mem _ h)
theorem mB303 : Cond.static yJ11_highSurrogate_5068e ∈ wA0 := sB303 _ List.mem_cons_self
theorem sB304 : ∀ w ∈ wB304, w ∈ wA0 := fun w h => sB303 w (List.mem_cons_of_mem _ h)
theorem mB304 : Cond.methodLink RJ2 161 yJ11_lowSurrogate_5068e ∈ wA0 := sB304 _ List.mem_cons_self
theorem sB305 : ∀ w ∈ wB305, w ∈ wA0 := fun w h => sB304 w (List.mem_cons_of_mem _ h)
theorem mB305 : Cond.static yJ11_lowSurrogate_5068e ∈ wA0 := sB305 _ List.mem_cons_self
theorem sB306 : ∀ w ∈ wB306, w ∈ wA0 := fun w h => sB305 w (List.mem_cons_of_mem _ h)
theorem mB306 : Cond.code yJ2_indexOfSupplementary_4cfef cJ2_indexOfSupplementary_4cfef 7 (some .int) ∈ wA0 := sB306 _ List.mem_cons_self
theorem sB307 : ∀ w ∈ wB307, w ∈ wA0 := fun w h => sB306 w (List.mem_cons_of_mem _ h)
theorem mB307 : Cond.methodLink RJ2 224 Lib.Math.max.name ∈ wA0 := sB307 _ List.mem_cons_self
theorem sB308 : ∀ w ∈ wB308, w ∈ wA0 := fun w h => sB307 w (List.mem_cons_of_mem _ h)
theorem mB308 : Cond.methodLink RJ2 183 Lib.Math.min.name ∈ wA0 := sB308 _ List.mem_cons_self
theorem sB309 : ∀ w ∈ wB309, w ∈ wA0 := fun w h => sB308 w (List.mem_cons_of_mem _ h)
theorem mB309 : Cond.constant RJ2 227 (65536) ∈ wA0 := sB309 _ List.mem_cons_self
theorem sB310 : ∀ w ∈ wB310, w ∈ wA0 := fun w h => sB309 w (List.mem_cons_of_mem _ h)
theorem mB310 : Cond.methodLink RJ2 228 yJ2_indexOfChar_4cfef ∈ wA0 := sB310 _ List.mem_cons_self
theorem sB311 : ∀ w ∈ wB311, w ∈ wA0 := fun w h => sB310 w (List.mem_cons_of_mem _ h)
theorem mB311 : Cond.static yJ2_indexOfChar_4cfef ∈ wA0 := sB311 _ List.mem_cons_self
theorem sB312 : ∀ w ∈ wB312, w ∈ wA0 := fun w h => sB311 w (List.mem_cons_of_mem _ h)
theorem mB312 : Cond.methodLink RJ2 232 yJ2_indexOfSupplementary_4cfef ∈ wA0 := sB312 _ List.mem_cons_self
theorem sB313 : ∀ w ∈ wB313, w ∈ wA0 := fun w h => sB312 w (List.mem_cons_of_mem _ h)
theorem mB313 : Cond.static yJ2_indexOfSupplementary_4cfef ∈ wA0 := sB313 _ List.mem_cons_self
theorem sB314 : ∀ w ∈ wB314, w ∈ wA0 := fun w h => sB313 w (List.mem_cons_of_mem _ h)
theorem mB314 : Cond.code yJ2_indexOf_4cfef cJ2_indexOf_4cfef 4 (some .int) ∈ wA0 := sB314 _ List.mem_cons_self
theorem sB315 : ∀ w ∈ wB315, w ∈ wA0 := fun w h => sB314 w (List.mem_cons_of_mem _ h)
theorem mB315 : Cond.methodLink RJ0 492 yJ0_isLatin1_aae02 ∈ wA0 := sB315 _ List.mem_cons_self
theorem sB316 : ∀ w ∈ wB316, w ∈ wA0 := fun w h => sB315 w (List.mem_cons_of_mem _ h)
theorem mB316 : Cond.instanceMethod yJ0_isLatin1_aae02 ∈ wA0 := sB316 _ List.mem_cons_self
theorem sB317 : ∀ w ∈ wB317, w ∈ wA0 := fun w h => sB316 w (List.mem_cons_of_mem _ h)
theorem mB317 : Cond.selects RJ0 yJ0_isLatin1_aae02 yJ0_isLatin1_aae02 ∈ wA0 := sB317 _ List.mem_cons_self
theorem sB318 : ∀ w ∈ wB318, w ∈ wA0 := fun w h => sB317 w (List.mem_cons_of_mem _ h)
theorem mB318 : Cond.methodLink RJ0 505 yJ0_length_8abf5 ∈ wA0 := sB318 _ List.mem_cons_self
theorem sB319 : ∀ w ∈ wB319, w ∈ wA0 := fun w h => sB318 w (List.mem_cons_of_mem _ h)
theorem mB319 : Cond.instanceMethod yJ0_length_8abf5 ∈ wA0 := sB319 _ List.mem_cons_self
theorem sB320 : ∀ w ∈ wB320, w ∈ wA0 := fun w h => sB319 w (List.mem_cons_of_mem _ h)
theorem mB320 : Cond.selects RJ0 yJ0_length_8abf5 yJ0_length_8abf5 ∈ wA0 := sB320 _ List.mem_cons_self
theorem sB321 : ∀ w ∈ wB321, w ∈ wA0 := fun w h => sB320 w (List.mem_cons_of_mem _ h)
theorem mB321 : Cond.methodLink RJ0 637 yJ1_indexOf_4cfef ∈ wA0 := sB321 _ List.mem_cons_self
theorem sB322 : ∀ w ∈ wB322, w ∈ wA0 := fun w h => sB321 w (List.mem_cons_of_mem _ h)
theorem mB322 : Cond.static yJ1_indexOf_4cfef ∈ wA0 := sB322 _ List.mem_cons_self
theorem sB323 : ∀ w ∈ wB323, w ∈ wA0 := fun w h => sB322 w (List.mem_cons_of_mem _ h)
theorem mB323 : Cond.methodLink RJ0 640 yJ2_indexOf_4cfef ∈ wA0 := sB323 _ List.mem_cons_self
theorem sB324 : ∀ w ∈ wB324, w ∈ wA0 := fun w h => sB323 w (List.mem_cons_of_mem _ h)
theorem mB324 : Cond.static yJ2_indexOf_4cfef ∈ wA0 := sB324 _ List.mem_cons_self
theorem sB325 : ∀ w ∈ wB325, w ∈ wA0 := fun w h => sB324 w (List.mem_cons_of_mem _ h)
theorem mB325 : Cond.code yJ0_indexOf_7cf53 cJ0_indexOf_7cf53 3 (some .int) ∈ wA0 := sB325 _ List.mem_cons_self
theorem sB326 : ∀ w ∈ wB326, w ∈ wA0 := fun w h => sB325 w (List.mem_cons_of_mem _ h)
theorem mB326 : Cond.methodLink RJ0 633 yJ0_indexOf_7cf53 ∈ wA0 := sB326 _ List.mem_cons_self
theorem sB327 : ∀ w ∈ wB327, w ∈ wA0 := fun w h => sB326 w (List.mem_cons_of_mem _ h)
theorem mB327 : Cond.instanceMethod yJ0_indexOf_7cf53 ∈ wA0 := sB327 _ List.mem_cons_self
theorem sB328 : ∀ w ∈ wB328, w ∈ wA0 := fun w h => sB327 w (List.mem_cons_of_mem _ h)
theorem mB328 : Cond.selects RJ0 yJ0_indexOf_7cf53 yJ0_indexOf_7cf53 ∈ wA0 := sB328 _ List.mem_cons_self
theorem sB329 : ∀ w ∈ wB329, w ∈ wA0 := fun w h => sB328 w (List.mem_cons_of_mem _ h)
theorem mB329 : Cond.code yJ0_indexOf_0f7a4 cJ0_indexOf_0f7a4 2 (some .int) ∈ wA0 := sB329 _ List.mem_cons_self
theorem sB330 : ∀ w ∈ wB330, w ∈ wA0 := fun w h => sB329 w (List.mem_cons_of_mem _ h)
theorem mB330 : Cond.code yX3_digitHere cX3_digitHere 1 (some .int) ∈ wA0 := sB330 _ List.mem_cons_self
theorem sB331 : ∀ w ∈ wB331, w ∈ wA0 := fun w h => sB330 w (List.mem_cons_of_mem _ h)
theorem mB331 : Cond.code yX3_readNumber cX3_readNumber 6 (some .boolean) ∈ wA0 := sB331 _ List.mem_cons_self
theorem sB332 : ∀ w ∈ wB332, w ∈ wA0 := fun w h => sB331 w (List.mem_cons_of_mem _ h)
theorem mB332 : Cond.methodLink RX3 61 yX3_digitHere ∈ wA0 := sB332 _ List.mem_cons_self
theorem sB333 : ∀ w ∈ wB333, w ∈ wA0 := fun w h => sB332 w (List.mem_cons_of_mem _ h)
theorem mB333 : Cond.instanceMethod yX3_digitHere ∈ wA0 := sB333 _ List.mem_cons_self
theorem sB334 : ∀ w ∈ wB334, w ∈ wA0 := fun w h => sB333 w (List.mem_cons_of_mem _ h)
theorem mB334 : Cond.selects RX3 yX3_digitHere yX3_digitHere ∈ wA0 := sB334 _ List.mem_cons_self
theorem sB335 : ∀ w ∈ wB335, w ∈ wA0 := fun w h => sB334 w (List.mem_cons_of_mem _ h)
theorem mB335 : Cond.initialized RX3 ∈ wA0 := sB335 _ List.mem_cons_self
theorem sB336 : ∀ w ∈ wB336, w ∈ wA0 := fun w h => sB335 w (List.mem_cons_of_mem _ h)
theorem mB336 : Cond.code yX3_take cX3_take 2 (some .boolean) ∈ wA0 := sB336 _ List.mem_cons_self
theorem sB337 : ∀ w ∈ wB337, w ∈ wA0 := fun w h => sB336 w (List.mem_cons_of_mem _ h)
theorem mB337 : Cond.code yX3_readOffset cX3_readOffset 1 (some .boolean) ∈ wA0 := sB337 _ List.mem_cons_self
theorem sB338 : ∀ w ∈ wB338, w ∈ wA0 := fun w h => sB337 w (List.mem_cons_of_mem _ h)
theorem mB338 : Cond.methodLink RX3 33 yX3_take ∈ wA0 := sB338 _ List.mem_cons_self
theorem sB339 : ∀ w ∈ wB339, w ∈ wA0 := fun w h => sB338 w (List.mem_cons_of_mem _ h)
theorem mB339 : Cond.instanceMethod yX3_take ∈ wA0 := sB339 _ List.mem_cons_self
theorem sB340 : ∀ w ∈ wB340, w ∈ wA0 := fun w h => sB339 w (List.mem_cons_of_mem _ h)
theorem mB340 : Cond.selects RX3 yX3_take yX3_take ∈ wA0 := sB340 _ List.mem_cons_self
theorem sB341 : ∀ w ∈ wB341, w ∈ wA0 := fun w h => sB340 w (List.mem_cons_of_mem _ h)
theorem mB341 : Cond.methodLink RX3 51 yX3_readNumber ∈ wA0 := sB341 _ List.mem_cons_self
theorem sB342 : ∀ w ∈ wB342, w ∈ wA0 := fun w h => sB341 w (List.mem_cons_of_mem _ h)
theorem mB342 : Cond.instanceMethod yX3_readNumber ∈ wA0 := sB342 _ List.mem_cons_self
theorem sB343 : ∀ w ∈ wB343, w ∈ wA0 := fun w h => sB342 w (List.mem_cons_of_mem _ h)
theorem mB343 : Cond.selects RX3 yX3_readNumber yX3_readNumber ∈ wA0 := sB343 _ List.mem_cons_self
theorem sB344 : ∀ w ∈ wB344, w ∈ wA0 := fun w h => sB343 w (List.mem_cons_of_mem _ h)
theorem mB344 : Cond.code yX3_readTransactionAndKey cX3_readTransactionAndKey 1 (some .boolean) ∈ wA0 := sB344 _ List.mem_cons_self
theorem sB345 : ∀ w ∈ wB345, w ∈ wA0 := fun w h => sB344 w (List.mem_cons_of_mem _ h)
theorem mB345 : Cond.fieldLink RX3 45 "CommitWaitStore$Text" "letter" "I" ∈ wA0 := sB345 _ List.mem_cons_self
theorem sB346 : ∀ w ∈ wB346, w ∈ wA0 := fun w h => sB345 w (List.mem_cons_of_mem _ h)
theorem mB346 : Cond.methodLink RX3 55 yX3_readOffset ∈ wA0 := sB346 _ List.mem_cons_self
theorem sB347 : ∀ w ∈ wB347, w ∈ wA0 := fun w h => sB346 w (List.mem_cons_of_mem _ h)
theorem mB347 : Cond.instanceMethod yX3_readOffset ∈ wA0 := sB347 _ List.mem_cons_self
theorem sB348 : ∀ w ∈ wB348, w ∈ wA0 := fun w h => sB347 w (List.mem_cons_of_mem _ h)
theorem mB348 : Cond.selects RX3 yX3_readOffset yX3_readOffset ∈ wA0 := sB348 _ List.mem_cons_self
theorem sB349 : ∀ w ∈ wB349, w ∈ wA0 := fun w h => sB348 w (List.mem_cons_of_mem _ h)
theorem mB349 : Cond.methodLink RX3 58 yX3_readTransactionAndKey ∈ wA0 := sB349 _ List.mem_cons_self
theorem sB350 : ∀ w ∈ wB350, w ∈ wA0 := fun w h => sB349 w (List.mem_cons_of_mem _ h)
theorem mB350 : Cond.instanceMethod yX3_readTransactionAndKey ∈ wA0 := sB350 _ List.mem_cons_self
theorem sB351 : ∀ w ∈ wB351, w ∈ wA0 := fun w h => sB350 w (List.mem_cons_of_mem _ h)
theorem mB351 : Cond.selects RX3 yX3_readTransactionAndKey yX3_readTransactionAndKey ∈ wA0 := sB351 _ List.mem_cons_self
theorem sB352 : ∀ w ∈ wB352, w ∈ wA0 := fun w h => sB351 w (List.mem_cons_of_mem _ h)
theorem mB352 : Cond.code yX3_readArguments cX3_readArguments 1 (some .boolean) ∈ wA0 := sB352 _ List.mem_cons_self
theorem sB353 : ∀ w ∈ wB353, w ∈ wA0 := fun w h => sB352 w (List.mem_cons_of_mem _ h)
theorem mB353 : Cond.methodLink RX3 39 yJ0_indexOf_0f7a4 ∈ wA0 := sB353 _ List.mem_cons_self
theorem sB354 : ∀ w ∈ wB354, w ∈ wA0 := fun w h => sB353 w (List.mem_cons_of_mem _ h)
theorem mB354 : Cond.instanceMethod yJ0_indexOf_0f7a4 ∈ wA0 := sB354 _ List.mem_cons_self
theorem sB355 : ∀ w ∈ wB355, w ∈ wA0 := fun w h => sB354 w (List.mem_cons_of_mem _ h)
theorem mB355 : Cond.selects RJ0 yJ0_indexOf_0f7a4 yJ0_indexOf_0f7a4 ∈ wA0 := sB355 _ List.mem_cons_self
theorem sB356 : ∀ w ∈ wB356, w ∈ wA0 := fun w h => sB355 w (List.mem_cons_of_mem _ h)
theorem mB356 : Cond.methodLink RX3 48 yX3_readArguments ∈ wA0 := sB356 _ List.mem_cons_self
theorem sB357 : ∀ w ∈ wB357, w ∈ wA0 := fun w h => sB356 w (List.mem_cons_of_mem _ h)
theorem mB357 : Cond.instanceMethod yX3_readArguments ∈ wA0 := sB357 _ List.mem_cons_self
theorem sB358 : ∀ w ∈ wB358, w ∈ wA0 := fun w h => sB357 w (List.mem_cons_of_mem _ h)
theorem mB358 : Cond.selects RX3 yX3_readArguments yX3_readArguments ∈ wA0 := sB358 _ List.mem_cons_self
theorem sB359 : ∀ w ∈ wB359, w ∈ wA0 := fun w h => sB358 w (List.mem_cons_of_mem _ h)
theorem mB359 : Cond.code yX3_readCommand cX3_readCommand 1 (some .boolean) ∈ wA0 := sB359 _ List.mem_cons_self
theorem sB360 : ∀ w ∈ wB360, w ∈ wA0 := fun w h => sB359 w (List.mem_cons_of_mem _ h)
theorem mB360 : Cond.methodLink RX3 26 yX3_rewind ∈ wA0 := sB360 _ List.mem_cons_self
theorem sB361 : ∀ w ∈ wB361, w ∈ wA0 := fun w h => sB360 w (List.mem_cons_of_mem _ h)
theorem mB361 : Cond.instanceMethod yX3_rewind ∈ wA0 := sB361 _ List.mem_cons_self
theorem sB362 : ∀ w ∈ wB362, w ∈ wA0 := fun w h => sB361 w (List.mem_cons_of_mem _ h)
theorem mB362 : Cond.selects RX3 yX3_rewind yX3_rewind ∈ wA0 := sB362 _ List.mem_cons_self
theorem sB363 : ∀ w ∈ wB363, w ∈ wA0 := fun w h => sB362 w (List.mem_cons_of_mem _ h)
theorem mB363 : Cond.methodLink RX3 29 yX3_readCommand ∈ wA0 := sB363 _ List.mem_cons_self
theorem sB364 : ∀ w ∈ wB364, w ∈ wA0 := fun w h => sB363 w (List.mem_cons_of_mem _ h)
theorem mB364 : Cond.instanceMethod yX3_readCommand ∈ wA0 := sB364 _ List.mem_cons_self
theorem sB365 : ∀ w ∈ wB365, w ∈ wA0 := fun w h => sB364 w (List.mem_cons_of_mem _ h)
theorem mB365 : Cond.selects RX3 yX3_readCommand yX3_readCommand ∈ wA0 := sB365 _ List.mem_cons_self
theorem sB366 : ∀ w ∈ wB366, w ∈ wA0 := fun w h => sB365 w (List.mem_cons_of_mem _ h)
theorem mB366 : Cond.code yX3_findError cX3_findError 2 (some .int) ∈ wA0 := sB366 _ List.mem_cons_self
theorem sB367 : ∀ w ∈ wB367, w ∈ wA0 := fun w h => sB366 w (List.mem_cons_of_mem _ h)
theorem mB367 : Cond.code yX3_readNextCommand cX3_readNextCommand 1 (some .boolean) ∈ wA0 := sB367 _ List.mem_cons_self
theorem sB368 : ∀ w ∈ wB368, w ∈ wA0 := fun w h => sB367 w (List.mem_cons_of_mem _ h)
theorem mB368 : Cond.code yX4_isOpen cX4_isOpen 2 (some .boolean) ∈ wA0 := sB368 _ List.mem_cons_self
theorem sB369 : ∀ w ∈ wB369, w ∈ wA0 := fun w h => sB368 w (List.mem_cons_of_mem _ h)
theorem mB369 : Cond.code yX4_findWaitingWriter cX4_findWaitingWriter 3 (some .int) ∈ wA0 := sB369 _ List.mem_cons_self
theorem sB370 : ∀ w ∈ wB370, w ∈ wA0 := fun w h => sB369 w (List.mem_cons_of_mem _ h)
theorem mB370 : Cond.code yX4_replay cX4_replay 6 (some .int) ∈ wA0 := sB370 _ List.mem_cons_self
theorem sB371 : ∀ w ∈ wB371, w ∈ wA0 := fun w h => sB370 w (List.mem_cons_of_mem _ h)
theorem mB371 : Cond.methodLink RX4 69 yX4_bufferOf ∈ wA0 := sB371 _ List.mem_cons_self
theorem sB372 : ∀ w ∈ wB372, w ∈ wA0 := fun w h => sB371 w (List.mem_cons_of_mem _ h)
theorem mB372 : Cond.code yX4_countWithStatus cX4_countWithStatus 4 (some .int) ∈ wA0 := sB372 _ List.mem_cons_self
theorem sB373 : ∀ w ∈ wB373, w ∈ wA0 := fun w h => sB372 w (List.mem_cons_of_mem _ h)
theorem mB373 : Cond.code yX4_sumOfWaits cX4_sumOfWaits 3 (some .int) ∈ wA0 := sB373 _ List.mem_cons_self
theorem sB374 : ∀ w ∈ wB374, w ∈ wA0 := fun w h => sB373 w (List.mem_cons_of_mem _ h)
theorem mB374 : Cond.code yX4_areInverted cX4_areInverted 3 (some .boolean) ∈ wA0 := sB374 _ List.mem_cons_self
theorem sB375 : ∀ w ∈ wB375, w ∈ wA0 := fun w h => sB374 w (List.mem_cons_of_mem _ h)
theorem mB375 : Cond.code yX4_countInversions cX4_countInversions 4 (some .int) ∈ wA0 := sB375 _ List.mem_cons_self
theorem sB376 : ∀ w ∈ wB376, w ∈ wA0 := fun w h => sB375 w (List.mem_cons_of_mem _ h)
theorem mB376 : Cond.methodLink RX4 72 yX4_areInverted ∈ wA0 := sB376 _ List.mem_cons_self
theorem sB377 : ∀ w ∈ wB377, w ∈ wA0 := fun w h => sB376 w (List.mem_cons_of_mem _ h)
theorem mB377 : Cond.instanceMethod yX4_areInverted ∈ wA0 := sB377 _ List.mem_cons_self
theorem sB378 : ∀ w ∈ wB378, w ∈ wA0 := fun w h => sB377 w (List.mem_cons_of_mem _ h)
theorem mB378 : Cond.selects RX4 yX4_areInverted yX4_areInverted ∈ wA0 := sB378 _ List.mem_cons_self
theorem sB379 : ∀ w ∈ wB379, w ∈ wA0 := fun w h => sB378 w (List.mem_cons_of_mem _ h)
theorem mB379 : Cond.code yX5_valueOf cX5_valueOf 4 (some .int) ∈ wA0 := sB379 _ List.mem_cons_self
theorem sB380 : ∀ w ∈ wB380, w ∈ wA0 := fun w h => sB379 w (List.mem_cons_of_mem _ h)
theorem mB380 : Cond.methodLink RX5 27 yX5_newest ∈ wA0 := sB380 _ List.mem_cons_self
theorem sB381 : ∀ w ∈ wB381, w ∈ wA0 := fun w h => sB380 w (List.mem_cons_of_mem _ h)
theorem mB381 : Cond.methodLink RX5 31 yX5_timestampOf ∈ wA0 := sB381 _ List.mem_cons_self
theorem sB382 : ∀ w ∈ wB382, w ∈ wA0 := fun w h => sB381 w (List.mem_cons_of_mem _ h)
theorem mB382 : Cond.methodLink RX5 35 yX5_valueOfVersion ∈ wA0 := sB382 _ List.mem_cons_self
theorem sB383 : ∀ w ∈ wB383, w ∈ wA0 := fun w h => sB382 w (List.mem_cons_of_mem _ h)
theorem mB383 : Cond.methodLink RX6 1 objectInit ∈ wA0 := sB383 _ List.mem_cons_self
theorem sB384 : ∀ w ∈ wB384, w ∈ wA0 := fun w h => sB383 w (List.mem_cons_of_mem _ h)
theorem mB384 : Cond.classLink RX6 7 RX2 ∈ wA0 := sB384 _ List.mem_cons_self
theorem sB385 : ∀ w ∈ wB385, w ∈ wA0 := fun w h => sB384 w (List.mem_cons_of_mem _ h)
theorem mB385 : Cond.fieldLink RX6 10 "CommitWaitStore" "state" "LCommitWaitStore$State;" ∈ wA0 := sB385 _ List.mem_cons_self
theorem sB386 : ∀ w ∈ wB386, w ∈ wA0 := fun w h => sB385 w (List.mem_cons_of_mem _ h)
theorem mB386 : Cond.classLink RX6 16 RX0 ∈ wA0 := sB386 _ List.mem_cons_self
theorem sB387 : ∀ w ∈ wB387, w ∈ wA0 := fun w h => sB386 w (List.mem_cons_of_mem _ h)
theorem mB387 : Cond.instantiable RX0 3 ∈ wA0 := sB387 _ List.mem_cons_self
theorem sB388 : ∀ w ∈ wB388, w ∈ wA0 := fun w h => sB387 w (List.mem_cons_of_mem _ h)
theorem mB388 : Cond.initialized RX0 ∈ wA0 := sB388 _ List.mem_cons_self
theorem sB389 : ∀ w ∈ wB389, w ∈ wA0 := fun w h => sB388 w (List.mem_cons_of_mem _ h)
theorem mB389 : Cond.fieldLink RX6 19 "CommitWaitStore" "saved" "LCommitWaitStore$SavedStates;" ∈ wA0 := sB389 _ List.mem_cons_self
theorem sB390 : ∀ w ∈ wB390, w ∈ wA0 := fun w h => sB389 w (List.mem_cons_of_mem _ h)
theorem mB390 : Cond.fieldLink RX6 23 "CommitWaitStore" "slots" "[LCommitWaitStore$State;" ∈ wA0 := sB390 _ List.mem_cons_self
theorem sB391 : ∀ w ∈ wB391, w ∈ wA0 := fun w h => sB390 w (List.mem_cons_of_mem _ h)
theorem mB391 : Cond.arrayClass .boolean ∈ wA0 := sB391 _ List.mem_cons_self
theorem sB392 : ∀ w ∈ wB392, w ∈ wA0 := fun w h => sB391 w (List.mem_cons_of_mem _ h)
theorem mB392 : Cond.fieldLink RX6 27 "CommitWaitStore" "slotHoldsState" "[Z" ∈ wA0 := sB392 _ List.mem_cons_self
theorem sB393 : ∀ w ∈ wB393, w ∈ wA0 := fun w h => sB392 w (List.mem_cons_of_mem _ h)
theorem mB393 : Cond.classLink RX6 31 RX3 ∈ wA0 := sB393 _ List.mem_cons_self
theorem sB394 : ∀ w ∈ wB394, w ∈ wA0 := fun w h => sB393 w (List.mem_cons_of_mem _ h)
theorem mB394 : Cond.instantiable RX3 5 ∈ wA0 := sB394 _ List.mem_cons_self
theorem sB395 : ∀ w ∈ wB395, w ∈ wA0 := fun w h => sB394 w (List.mem_cons_of_mem _ h)
theorem mB395 : Cond.fieldLink RX6 34 "CommitWaitStore" "text" "LCommitWaitStore$Text;" ∈ wA0 := sB395 _ List.mem_cons_self
theorem sB396 : ∀ w ∈ wB396, w ∈ wA0 := fun w h => sB395 w (List.mem_cons_of_mem _ h)
theorem mB396 : Cond.methodLink RX6 9 yX2_init ∈ wA0 := sB396 _ List.mem_cons_self
theorem sB397 : ∀ w ∈ wB397, w ∈ wA0 := fun w h => sB396 w (List.mem_cons_of_mem _ h)
theorem mB397 : Cond.methodLink RX6 18 yX0_init ∈ wA0 := sB397 _ List.mem_cons_self
theorem sB398 : ∀ w ∈ wB398, w ∈ wA0 := fun w h => sB397 w (List.mem_cons_of_mem _ h)
theorem mB398 : Cond.instanceMethod yX0_init ∈ wA0 := sB398 _ List.mem_cons_self
theorem sB399 : ∀ w ∈ wB399, w ∈ wA0 := fun w h => sB398 w (List.mem_cons_of_mem _ h)
theorem mB399 : Cond.instanceMethod yX3_init ∈ wA0 := sB399 _ List.mem_cons_self
theorem sB400 : ∀ w ∈ wB400, w ∈ wA0 := fun w h => sB399 w (List.mem_cons_of_mem _ h)
theorem mB400 : Cond.code yX6_init cX6_init 2 none ∈ wA0 := sB400 _ List.mem_cons_self
theorem sB401 : ∀ w ∈ wB401, w ∈ wA0 := fun w h => sB400 w (List.mem_cons_of_mem _ h)
theorem mB401 : Cond.code yX6_requireServer cX6_requireServer 2 none ∈ wA0 := sB401 _ List.mem_cons_self
theorem sB402 : ∀ w ∈ wB402, w ∈ wA0 := fun w h => sB401 w (List.mem_cons_of_mem _ h)
theorem mB402 : Cond.classLink RX6 254 "java/lang/IndexOutOfBoundsException" ∈ wA0 := sB402 _ List.mem_cons_self
theorem sB403 : ∀ w ∈ wB403, w ∈ wA0 := fun w h => sB402 w (List.mem_cons_of_mem _ h)
theorem mB403 : Cond.initialized "java/lang/IndexOutOfBoundsException" ∈ wA0 := sB403 _ List.mem_cons_self
theorem sB404 : ∀ w ∈ wB404, w ∈ wA0 := fun w h => sB403 w (List.mem_cons_of_mem _ h)
theorem mB404 : Cond.classLink RX6 46 "java/lang/IllegalStateException" ∈ wA0 := sB404 _ List.mem_cons_self
theorem sB405 : ∀ w ∈ wB405, w ∈ wA0 := fun w h => sB404 w (List.mem_cons_of_mem _ h)
theorem mB405 : Cond.initialized "java/lang/IllegalStateException" ∈ wA0 := sB405 _ List.mem_cons_self
theorem sB406 : ∀ w ∈ wB406, w ∈ wA0 := fun w h => sB405 w (List.mem_cons_of_mem _ h)
theorem mB406 : Cond.methodLink RX6 38 yX6_requireServer ∈ wA0 := sB406 _ List.mem_cons_self
theorem sB407 : ∀ w ∈ wB407, w ∈ wA0 := fun w h => sB406 w (List.mem_cons_of_mem _ h)
theorem mB407 : Cond.instanceMethod yX6_requireServer ∈ wA0 := sB407 _ List.mem_cons_self
theorem sB408 : ∀ w ∈ wB408, w ∈ wA0 := fun w h => sB407 w (List.mem_cons_of_mem _ h)
theorem mB408 : Cond.selects RX6 yX6_requireServer yX6_requireServer ∈ wA0 := sB408 _ List.mem_cons_self
theorem sB409 : ∀ w ∈ wB409, w ∈ wA0 := fun w h => sB408 w (List.mem_cons_of_mem _ h)
theorem mB409 : Cond.initialized RX6 ∈ wA0 := sB409 _ List.mem_cons_self
theorem sB410 : ∀ w ∈ wB410, w ∈ wA0 := fun w h => sB409 w (List.mem_cons_of_mem _ h)
theorem mB410 : Cond.methodLink RX6 42 yX2_canBegin ∈ wA0 := sB410 _ List.mem_cons_self
theorem sB411 : ∀ w ∈ wB411, w ∈ wA0 := fun w h => sB410 w (List.mem_cons_of_mem _ h)
theorem mB411 : Cond.instanceMethod yX2_canBegin ∈ wA0 := sB411 _ List.mem_cons_self
theorem sB412 : ∀ w ∈ wB412, w ∈ wA0 := fun w h => sB411 w (List.mem_cons_of_mem _ h)
theorem mB412 : Cond.selects RX2 yX2_canBegin yX2_canBegin ∈ wA0 := sB412 _ List.mem_cons_self
theorem sB413 : ∀ w ∈ wB413, w ∈ wA0 := fun w h => sB412 w (List.mem_cons_of_mem _ h)
theorem mB413 : Cond.methodLink RX6 53 yX0_push ∈ wA0 := sB413 _ List.mem_cons_self
theorem sB414 : ∀ w ∈ wB414, w ∈ wA0 := fun w h => sB413 w (List.mem_cons_of_mem _ h)
theorem mB414 : Cond.instanceMethod yX0_push ∈ wA0 := sB414 _ List.mem_cons_self
theorem sB415 : ∀ w ∈ wB415, w ∈ wA0 := fun w h => sB414 w (List.mem_cons_of_mem _ h)
theorem mB415 : Cond.selects RX0 yX0_push yX0_push ∈ wA0 := sB415 _ List.mem_cons_self
theorem sB416 : ∀ w ∈ wB416, w ∈ wA0 := fun w h => sB415 w (List.mem_cons_of_mem _ h)
theorem mB416 : Cond.methodLink RX6 57 yX2_beginAt ∈ wA0 := sB416 _ List.mem_cons_self
theorem sB417 : ∀ w ∈ wB417, w ∈ wA0 := fun w h => sB416 w (List.mem_cons_of_mem _ h)
theorem mB417 : Cond.instanceMethod yX2_beginAt ∈ wA0 := sB417 _ List.mem_cons_self
theorem sB418 : ∀ w ∈ wB418, w ∈ wA0 := fun w h => sB417 w (List.mem_cons_of_mem _ h)
theorem mB418 : Cond.selects RX2 yX2_beginAt yX2_beginAt ∈ wA0 := sB418 _ List.mem_cons_self
theorem sB419 : ∀ w ∈ wB419, w ∈ wA0 := fun w h => sB418 w (List.mem_cons_of_mem _ h)
theorem mB419 : Cond.code yX6_begin cX6_begin 2 (some .int) ∈ wA0 := sB419 _ List.mem_cons_self
theorem sB420 : ∀ w ∈ wB420, w ∈ wA0 := fun w h => sB419 w (List.mem_cons_of_mem _ h)
theorem mB420 : Cond.code yX6_requireTransaction cX6_requireTransaction 2 none ∈ wA0 := sB420 _ List.mem_cons_self
theorem sB421 : ∀ w ∈ wB421, w ∈ wA0 := fun w h => sB420 w (List.mem_cons_of_mem _ h)
theorem mB421 : Cond.fieldLink RX6 185 "CommitWaitStore$State" "transactions" "LCommitWaitStore$Transactions;" ∈ wA0 := sB421 _ List.mem_cons_self
theorem sB422 : ∀ w ∈ wB422, w ∈ wA0 := fun w h => sB421 w (List.mem_cons_of_mem _ h)
theorem mB422 : Cond.fieldLink RX6 225 "CommitWaitStore$Transactions" "begun" "I" ∈ wA0 := sB422 _ List.mem_cons_self
theorem sB423 : ∀ w ∈ wB423, w ∈ wA0 := fun w h => sB422 w (List.mem_cons_of_mem _ h)
theorem mB423 : Cond.code yX6_requireKey cX6_requireKey 2 none ∈ wA0 := sB423 _ List.mem_cons_self
theorem sB424 : ∀ w ∈ wB424, w ∈ wA0 := fun w h => sB423 w (List.mem_cons_of_mem _ h)
theorem mB424 : Cond.code yX6_requireOpen cX6_requireOpen 2 none ∈ wA0 := sB424 _ List.mem_cons_self
theorem sB425 : ∀ w ∈ wB425, w ∈ wA0 := fun w h => sB424 w (List.mem_cons_of_mem _ h)
theorem mB425 : Cond.methodLink RX6 189 yX4_isOpen ∈ wA0 := sB425 _ List.mem_cons_self
theorem sB426 : ∀ w ∈ wB426, w ∈ wA0 := fun w h => sB425 w (List.mem_cons_of_mem _ h)
theorem mB426 : Cond.instanceMethod yX4_isOpen ∈ wA0 := sB426 _ List.mem_cons_self
theorem sB427 : ∀ w ∈ wB427, w ∈ wA0 := fun w h => sB426 w (List.mem_cons_of_mem _ h)
theorem mB427 : Cond.selects RX4 yX4_isOpen yX4_isOpen ∈ wA0 := sB427 _ List.mem_cons_self
theorem sB428 : ∀ w ∈ wB428, w ∈ wA0 := fun w h => sB427 w (List.mem_cons_of_mem _ h)
theorem mB428 : Cond.methodLink RX6 61 yX6_requireTransaction ∈ wA0 := sB428 _ List.mem_cons_self
theorem sB429 : ∀ w ∈ wB429, w ∈ wA0 := fun w h => sB428 w (List.mem_cons_of_mem _ h)
theorem mB429 : Cond.instanceMethod yX6_requireTransaction ∈ wA0 := sB429 _ List.mem_cons_self
theorem sB430 : ∀ w ∈ wB430, w ∈ wA0 := fun w h => sB429 w (List.mem_cons_of_mem _ h)
theorem mB430 : Cond.selects RX6 yX6_requireTransaction yX6_requireTransaction ∈ wA0 := sB430 _ List.mem_cons_self
theorem sB431 : ∀ w ∈ wB431, w ∈ wA0 := fun w h => sB430 w (List.mem_cons_of_mem _ h)
theorem mB431 : Cond.methodLink RX6 64 yX6_requireKey ∈ wA0 := sB431 _ List.mem_cons_self
theorem sB432 : ∀ w ∈ wB432, w ∈ wA0 := fun w h => sB431 w (List.mem_cons_of_mem _ h)
theorem mB432 : Cond.instanceMethod yX6_requireKey ∈ wA0 := sB432 _ List.mem_cons_self
theorem sB433 : ∀ w ∈ wB433, w ∈ wA0 := fun w h => sB432 w (List.mem_cons_of_mem _ h)
theorem mB433 : Cond.selects RX6 yX6_requireKey yX6_requireKey ∈ wA0 := sB433 _ List.mem_cons_self
theorem sB434 : ∀ w ∈ wB434, w ∈ wA0 := fun w h => sB433 w (List.mem_cons_of_mem _ h)
theorem mB434 : Cond.methodLink RX6 67 yX6_requireOpen ∈ wA0 := sB434 _ List.mem_cons_self
theorem sB435 : ∀ w ∈ wB435, w ∈ wA0 := fun w h => sB434 w (List.mem_cons_of_mem _ h)
theorem mB435 : Cond.instanceMethod yX6_requireOpen ∈ wA0 := sB435 _ List.mem_cons_self
theorem sB436 : ∀ w ∈ wB436, w ∈ wA0 := fun w h => sB435 w (List.mem_cons_of_mem _ h)
theorem mB436 : Cond.selects RX6 yX6_requireOpen yX6_requireOpen ∈ wA0 := sB436 _ List.mem_cons_self
theorem sB437 : ∀ w ∈ wB437, w ∈ wA0 := fun w h => sB436 w (List.mem_cons_of_mem _ h)
theorem mB437 : Cond.methodLink RX6 70 yX2_readKey ∈ wA0 := sB437 _ List.mem_cons_self
theorem sB438 : ∀ w ∈ wB438, w ∈ wA0 := fun w h => sB437 w (List.mem_cons_of_mem _ h)
theorem mB438 : Cond.instanceMethod yX2_readKey ∈ wA0 := sB438 _ List.mem_cons_self
theorem sB439 : ∀ w ∈ wB439, w ∈ wA0 := fun w h => sB438 w (List.mem_cons_of_mem _ h)
theorem mB439 : Cond.selects RX2 yX2_readKey yX2_readKey ∈ wA0 := sB439 _ List.mem_cons_self
theorem sB440 : ∀ w ∈ wB440, w ∈ wA0 := fun w h => sB439 w (List.mem_cons_of_mem _ h)
theorem mB440 : Cond.code yX6_read cX6_read 3 (some .int) ∈ wA0 := sB440 _ List.mem_cons_self
theorem sB441 : ∀ w ∈ wB441, w ∈ wA0 := fun w h => sB440 w (List.mem_cons_of_mem _ h)
theorem mB441 : Cond.code yX6_requireRange cX6_requireRange 4 none ∈ wA0 := sB441 _ List.mem_cons_self
theorem sB442 : ∀ w ∈ wB442, w ∈ wA0 := fun w h => sB441 w (List.mem_cons_of_mem _ h)
theorem mB442 : Cond.classLink RX6 291 "java/lang/IllegalArgumentException" ∈ wA0 := sB442 _ List.mem_cons_self
theorem sB443 : ∀ w ∈ wB443, w ∈ wA0 := fun w h => sB442 w (List.mem_cons_of_mem _ h)
theorem mB443 : Cond.initialized "java/lang/IllegalArgumentException" ∈ wA0 := sB443 _ List.mem_cons_self
theorem sB444 : ∀ w ∈ wB444, w ∈ wA0 := fun w h => sB443 w (List.mem_cons_of_mem _ h)
theorem mB444 : Cond.methodLink RX6 74 yX6_requireRange ∈ wA0 := sB444 _ List.mem_cons_self
theorem sB445 : ∀ w ∈ wB445, w ∈ wA0 := fun w h => sB444 w (List.mem_cons_of_mem _ h)
theorem mB445 : Cond.instanceMethod yX6_requireRange ∈ wA0 := sB445 _ List.mem_cons_self
theorem sB446 : ∀ w ∈ wB446, w ∈ wA0 := fun w h => sB445 w (List.mem_cons_of_mem _ h)
theorem mB446 : Cond.selects RX6 yX6_requireRange yX6_requireRange ∈ wA0 := sB446 _ List.mem_cons_self
theorem sB447 : ∀ w ∈ wB447, w ∈ wA0 := fun w h => sB446 w (List.mem_cons_of_mem _ h)
theorem mB447 : Cond.methodLink RX6 78 yX2_writeKey ∈ wA0 := sB447 _ List.mem_cons_self
theorem sB448 : ∀ w ∈ wB448, w ∈ wA0 := fun w h => sB447 w (List.mem_cons_of_mem _ h)
theorem mB448 : Cond.instanceMethod yX2_writeKey ∈ wA0 := sB448 _ List.mem_cons_self
theorem sB449 : ∀ w ∈ wB449, w ∈ wA0 := fun w h => sB448 w (List.mem_cons_of_mem _ h)
theorem mB449 : Cond.selects RX2 yX2_writeKey yX2_writeKey ∈ wA0 := sB449 _ List.mem_cons_self
theorem sB450 : ∀ w ∈ wB450, w ∈ wA0 := fun w h => sB449 w (List.mem_cons_of_mem _ h)
theorem mB450 : Cond.code yX6_write cX6_write 4 (some .int) ∈ wA0 := sB450 _ List.mem_cons_self
theorem sB451 : ∀ w ∈ wB451, w ∈ wA0 := fun w h => sB450 w (List.mem_cons_of_mem _ h)
theorem mB451 : Cond.methodLink RX6 82 yX2_commitOutcome ∈ wA0 := sB451 _ List.mem_cons_self
theorem sB452 : ∀ w ∈ wB452, w ∈ wA0 := fun w h => sB451 w (List.mem_cons_of_mem _ h)
theorem mB452 : Cond.instanceMethod yX2_commitOutcome ∈ wA0 := sB452 _ List.mem_cons_self
theorem sB453 : ∀ w ∈ wB453, w ∈ wA0 := fun w h => sB452 w (List.mem_cons_of_mem _ h)
theorem mB453 : Cond.selects RX2 yX2_commitOutcome yX2_commitOutcome ∈ wA0 := sB453 _ List.mem_cons_self
theorem sB454 : ∀ w ∈ wB454, w ∈ wA0 := fun w h => sB453 w (List.mem_cons_of_mem _ h)
theorem mB454 : Cond.methodLink RX6 85 yX2_carryOut ∈ wA0 := sB454 _ List.mem_cons_self
theorem sB455 : ∀ w ∈ wB455, w ∈ wA0 := fun w h => sB454 w (List.mem_cons_of_mem _ h)
theorem mB455 : Cond.instanceMethod yX2_carryOut ∈ wA0 := sB455 _ List.mem_cons_self
theorem sB456 : ∀ w ∈ wB456, w ∈ wA0 := fun w h => sB455 w (List.mem_cons_of_mem _ h)
theorem mB456 : Cond.selects RX2 yX2_carryOut yX2_carryOut ∈ wA0 := sB456 _ List.mem_cons_self
theorem sB457 : ∀ w ∈ wB457, w ∈ wA0 := fun w h => sB456 w (List.mem_cons_of_mem _ h)
theorem mB457 : Cond.code yX6_commit cX6_commit 3 (some .int) ∈ wA0 := sB457 _ List.mem_cons_self
theorem sB458 : ∀ w ∈ wB458, w ∈ wA0 := fun w h => sB457 w (List.mem_cons_of_mem _ h)
theorem mB458 : Cond.methodLink RX6 89 yX2_makeAborted ∈ wA0 := sB458 _ List.mem_cons_self
theorem sB459 : ∀ w ∈ wB459, w ∈ wA0 := fun w h => sB458 w (List.mem_cons_of_mem _ h)
theorem mB459 : Cond.code yX6_abort cX6_abort 2 (some .int) ∈ wA0 := sB459 _ List.mem_cons_self
theorem sB460 : ∀ w ∈ wB460, w ∈ wA0 := fun w h => sB459 w (List.mem_cons_of_mem _ h)
theorem mB460 : Cond.methodLink RX6 92 yX2_canAdvance ∈ wA0 := sB460 _ List.mem_cons_self
theorem sB461 : ∀ w ∈ wB461, w ∈ wA0 := fun w h => sB460 w (List.mem_cons_of_mem _ h)
theorem mB461 : Cond.instanceMethod yX2_canAdvance ∈ wA0 := sB461 _ List.mem_cons_self
theorem sB462 : ∀ w ∈ wB462, w ∈ wA0 := fun w h => sB461 w (List.mem_cons_of_mem _ h)
theorem mB462 : Cond.selects RX2 yX2_canAdvance yX2_canAdvance ∈ wA0 := sB462 _ List.mem_cons_self
theorem sB463 : ∀ w ∈ wB463, w ∈ wA0 := fun w h => sB462 w (List.mem_cons_of_mem _ h)
theorem mB463 : Cond.methodLink RX6 98 yX2_advanceBy ∈ wA0 := sB463 _ List.mem_cons_self
theorem sB464 : ∀ w ∈ wB464, w ∈ wA0 := fun w h => sB463 w (List.mem_cons_of_mem _ h)
theorem mB464 : Cond.instanceMethod yX2_advanceBy ∈ wA0 := sB464 _ List.mem_cons_self
theorem sB465 : ∀ w ∈ wB465, w ∈ wA0 := fun w h => sB464 w (List.mem_cons_of_mem _ h)
theorem mB465 : Cond.selects RX2 yX2_advanceBy yX2_advanceBy ∈ wA0 := sB465 _ List.mem_cons_self
theorem sB466 : ∀ w ∈ wB466, w ∈ wA0 := fun w h => sB465 w (List.mem_cons_of_mem _ h)
theorem mB466 : Cond.code yX6_advance cX6_advance 2 (some .int) ∈ wA0 := sB466 _ List.mem_cons_self
theorem sB467 : ∀ w ∈ wB467, w ∈ wA0 := fun w h => sB466 w (List.mem_cons_of_mem _ h)
theorem mB467 : Cond.methodLink RX6 101 yX2_synchronizeClock ∈ wA0 := sB467 _ List.mem_cons_self
theorem sB468 : ∀ w ∈ wB468, w ∈ wA0 := fun w h => sB467 w (List.mem_cons_of_mem _ h)
theorem mB468 : Cond.instanceMethod yX2_synchronizeClock ∈ wA0 := sB468 _ List.mem_cons_self
theorem sB469 : ∀ w ∈ wB469, w ∈ wA0 := fun w h => sB468 w (List.mem_cons_of_mem _ h)
theorem mB469 : Cond.selects RX2 yX2_synchronizeClock yX2_synchronizeClock ∈ wA0 := sB469 _ List.mem_cons_self
theorem sB470 : ∀ w ∈ wB470, w ∈ wA0 := fun w h => sB469 w (List.mem_cons_of_mem _ h)
theorem mB470 : Cond.code yX6_synchronize cX6_synchronize 3 (some .int) ∈ wA0 := sB470 _ List.mem_cons_self
theorem sB471 : ∀ w ∈ wB471, w ∈ wA0 := fun w h => sB470 w (List.mem_cons_of_mem _ h)
theorem mB471 : Cond.fieldLink RX6 104 "CommitWaitStore$State" "servers" "[LCommitWaitStore$Server;" ∈ wA0 := sB471 _ List.mem_cons_self
theorem sB472 : ∀ w ∈ wB472, w ∈ wA0 := fun w h => sB471 w (List.mem_cons_of_mem _ h)
theorem mB472 : Cond.fieldLink RX6 108 "CommitWaitStore$State" "trueTime" "I" ∈ wA0 := sB472 _ List.mem_cons_self
theorem sB473 : ∀ w ∈ wB473, w ∈ wA0 := fun w h => sB472 w (List.mem_cons_of_mem _ h)
theorem mB473 : Cond.methodLink RX6 112 yX1_changeDrift ∈ wA0 := sB473 _ List.mem_cons_self
theorem sB474 : ∀ w ∈ wB474, w ∈ wA0 := fun w h => sB473 w (List.mem_cons_of_mem _ h)
theorem mB474 : Cond.instanceMethod yX1_changeDrift ∈ wA0 := sB474 _ List.mem_cons_self
theorem sB475 : ∀ w ∈ wB475, w ∈ wA0 := fun w h => sB474 w (List.mem_cons_of_mem _ h)
theorem mB475 : Cond.selects RX1 yX1_changeDrift yX1_changeDrift ∈ wA0 := sB475 _ List.mem_cons_self
theorem sB476 : ∀ w ∈ wB476, w ∈ wA0 := fun w h => sB475 w (List.mem_cons_of_mem _ h)
theorem mB476 : Cond.code yX6_setDrift cX6_setDrift 3 (some .int) ∈ wA0 := sB476 _ List.mem_cons_self
theorem sB477 : ∀ w ∈ wB477, w ∈ wA0 := fun w h => sB476 w (List.mem_cons_of_mem _ h)
theorem mB477 : Cond.methodLink RX6 117 yX1_changeUncertainty ∈ wA0 := sB477 _ List.mem_cons_self
theorem sB478 : ∀ w ∈ wB478, w ∈ wA0 := fun w h => sB477 w (List.mem_cons_of_mem _ h)
theorem mB478 : Cond.instanceMethod yX1_changeUncertainty ∈ wA0 := sB478 _ List.mem_cons_self
theorem sB479 : ∀ w ∈ wB479, w ∈ wA0 := fun w h => sB478 w (List.mem_cons_of_mem _ h)
theorem mB479 : Cond.selects RX1 yX1_changeUncertainty yX1_changeUncertainty ∈ wA0 := sB479 _ List.mem_cons_self
theorem sB480 : ∀ w ∈ wB480, w ∈ wA0 := fun w h => sB479 w (List.mem_cons_of_mem _ h)
theorem mB480 : Cond.methodLink RX6 120 yX1_uncertaintyAt ∈ wA0 := sB480 _ List.mem_cons_self
theorem sB481 : ∀ w ∈ wB481, w ∈ wA0 := fun w h => sB480 w (List.mem_cons_of_mem _ h)
theorem mB481 : Cond.code yX6_setUncertainty cX6_setUncertainty 4 (some .int) ∈ wA0 := sB481 _ List.mem_cons_self
theorem sB482 : ∀ w ∈ wB482, w ∈ wA0 := fun w h => sB481 w (List.mem_cons_of_mem _ h)
theorem mB482 : Cond.code yX6_requireNotNegative cX6_requireNotNegative 2 none ∈ wA0 := sB482 _ List.mem_cons_self
theorem sB483 : ∀ w ∈ wB483, w ∈ wA0 := fun w h => sB482 w (List.mem_cons_of_mem _ h)
theorem mB483 : Cond.fieldLink RX6 132 "CommitWaitStore$State" "readFloor" "I" ∈ wA0 := sB483 _ List.mem_cons_self
theorem sB484 : ∀ w ∈ wB484, w ∈ wA0 := fun w h => sB483 w (List.mem_cons_of_mem _ h)
theorem mB484 : Cond.methodLink RX6 135 Lib.Math.max.name ∈ wA0 := sB484 _ List.mem_cons_self
theorem sB485 : ∀ w ∈ wB485, w ∈ wA0 := fun w h => sB484 w (List.mem_cons_of_mem _ h)
theorem mB485 : Cond.fieldLink RX6 140 "CommitWaitStore$State" "versions" "LCommitWaitStore$Versions;" ∈ wA0 := sB485 _ List.mem_cons_self
theorem sB486 : ∀ w ∈ wB486, w ∈ wA0 := fun w h => sB485 w (List.mem_cons_of_mem _ h)
theorem mB486 : Cond.methodLink RX6 123 yX6_requireNotNegative ∈ wA0 := sB486 _ List.mem_cons_self
theorem sB487 : ∀ w ∈ wB487, w ∈ wA0 := fun w h => sB486 w (List.mem_cons_of_mem _ h)
theorem mB487 : Cond.instanceMethod yX6_requireNotNegative ∈ wA0 := sB487 _ List.mem_cons_self
theorem sB488 : ∀ w ∈ wB488, w ∈ wA0 := fun w h => sB487 w (List.mem_cons_of_mem _ h)
theorem mB488 : Cond.selects RX6 yX6_requireNotNegative yX6_requireNotNegative ∈ wA0 := sB488 _ List.mem_cons_self
theorem sB489 : ∀ w ∈ wB489, w ∈ wA0 := fun w h => sB488 w (List.mem_cons_of_mem _ h)
theorem mB489 : Cond.methodLink RX6 126 yX2_safeTimeNow ∈ wA0 := sB489 _ List.mem_cons_self
theorem sB490 : ∀ w ∈ wB490, w ∈ wA0 := fun w h => sB489 w (List.mem_cons_of_mem _ h)
theorem mB490 : Cond.instanceMethod yX2_safeTimeNow ∈ wA0 := sB490 _ List.mem_cons_self
theorem sB491 : ∀ w ∈ wB491, w ∈ wA0 := fun w h => sB490 w (List.mem_cons_of_mem _ h)
theorem mB491 : Cond.selects RX2 yX2_safeTimeNow yX2_safeTimeNow ∈ wA0 := sB491 _ List.mem_cons_self
theorem sB492 : ∀ w ∈ wB492, w ∈ wA0 := fun w h => sB491 w (List.mem_cons_of_mem _ h)
theorem mB492 : Cond.methodLink RX6 144 yX5_valueOf ∈ wA0 := sB492 _ List.mem_cons_self
theorem sB493 : ∀ w ∈ wB493, w ∈ wA0 := fun w h => sB492 w (List.mem_cons_of_mem _ h)
theorem mB493 : Cond.instanceMethod yX5_valueOf ∈ wA0 := sB493 _ List.mem_cons_self
theorem sB494 : ∀ w ∈ wB494, w ∈ wA0 := fun w h => sB493 w (List.mem_cons_of_mem _ h)
theorem mB494 : Cond.selects RX5 yX5_valueOf yX5_valueOf ∈ wA0 := sB494 _ List.mem_cons_self
theorem sB495 : ∀ w ∈ wB495, w ∈ wA0 := fun w h => sB494 w (List.mem_cons_of_mem _ h)
theorem mB495 : Cond.code yX6_snapshotRead cX6_snapshotRead 3 (some .int) ∈ wA0 := sB495 _ List.mem_cons_self
theorem sB496 : ∀ w ∈ wB496, w ∈ wA0 := fun w h => sB495 w (List.mem_cons_of_mem _ h)
theorem mB496 : Cond.code yX6_appendText cX6_appendText 2 (some .int) ∈ wA0 := sB496 _ List.mem_cons_self
theorem sB497 : ∀ w ∈ wB497, w ∈ wA0 := fun w h => sB496 w (List.mem_cons_of_mem _ h)
theorem mB497 : Cond.fieldLink RX6 158 "CommitWaitStore$Text" "length" "I" ∈ wA0 := sB497 _ List.mem_cons_self
theorem sB498 : ∀ w ∈ wB498, w ∈ wA0 := fun w h => sB497 w (List.mem_cons_of_mem _ h)
theorem mB498 : Cond.methodLink RX6 149 yX3_isFull ∈ wA0 := sB498 _ List.mem_cons_self
theorem sB499 : ∀ w ∈ wB499, w ∈ wA0 := fun w h => sB498 w (List.mem_cons_of_mem _ h)
theorem mB499 : Cond.instanceMethod yX3_isFull ∈ wA0 := sB499 _ List.mem_cons_self
theorem sB500 : ∀ w ∈ wB500, w ∈ wA0 := fun w h => sB499 w (List.mem_cons_of_mem _ h)
theorem mB500 : Cond.selects RX3 yX3_isFull yX3_isFull ∈ wA0 := sB500 _ List.mem_cons_self
theorem sB501 : ∀ w ∈ wB501, w ∈ wA0 := fun w h => sB500 w (List.mem_cons_of_mem _ h)
theorem mB501 : Cond.methodLink RX6 154 yX3_append ∈ wA0 := sB501 _ List.mem_cons_self
theorem sB502 : ∀ w ∈ wB502, w ∈ wA0 := fun w h => sB501 w (List.mem_cons_of_mem _ h)
theorem mB502 : Cond.instanceMethod yX3_append ∈ wA0 := sB502 _ List.mem_cons_self
theorem sB503 : ∀ w ∈ wB503, w ∈ wA0 := fun w h => sB502 w (List.mem_cons_of_mem _ h)
theorem mB503 : Cond.selects RX3 yX3_append yX3_append ∈ wA0 := sB503 _ List.mem_cons_self
theorem sB504 : ∀ w ∈ wB504, w ∈ wA0 := fun w h => sB503 w (List.mem_cons_of_mem _ h)
theorem mB504 : Cond.code yX6_clearText cX6_clearText 2 (some .int) ∈ wA0 := sB504 _ List.mem_cons_self
theorem sB505 : ∀ w ∈ wB505, w ∈ wA0 := fun w h => sB504 w (List.mem_cons_of_mem _ h)
theorem mB505 : Cond.methodLink RX6 161 yX3_findError ∈ wA0 := sB505 _ List.mem_cons_self
theorem sB506 : ∀ w ∈ wB506, w ∈ wA0 := fun w h => sB505 w (List.mem_cons_of_mem _ h)
theorem mB506 : Cond.instanceMethod yX3_findError ∈ wA0 := sB506 _ List.mem_cons_self
theorem sB507 : ∀ w ∈ wB507, w ∈ wA0 := fun w h => sB506 w (List.mem_cons_of_mem _ h)
theorem mB507 : Cond.selects RX3 yX3_findError yX3_findError ∈ wA0 := sB507 _ List.mem_cons_self
theorem sB508 : ∀ w ∈ wB508, w ∈ wA0 := fun w h => sB507 w (List.mem_cons_of_mem _ h)
theorem mB508 : Cond.code yX6_errorPosition cX6_errorPosition 1 (some .int) ∈ wA0 := sB508 _ List.mem_cons_self
theorem sB509 : ∀ w ∈ wB509, w ∈ wA0 := fun w h => sB508 w (List.mem_cons_of_mem _ h)
theorem mB509 : Cond.code yX6_canExecute cX6_canExecute 2 (some .boolean) ∈ wA0 := sB509 _ List.mem_cons_self
theorem sB510 : ∀ w ∈ wB510, w ∈ wA0 := fun w h => sB509 w (List.mem_cons_of_mem _ h)
theorem mB510 : Cond.fieldLink RX6 182 "CommitWaitStore$Text" "letter" "I" ∈ wA0 := sB510 _ List.mem_cons_self
theorem sB511 : ∀ w ∈ wB511, w ∈ wA0 := fun w h => sB510 w (List.mem_cons_of_mem _ h)
theorem mB511 : Cond.fieldLink RX6 175 "CommitWaitStore$Text" "arguments" "[I" ∈ wA0 := sB511 _ List.mem_cons_self
theorem sB512 : ∀ w ∈ wB512, w ∈ wA0 := fun w h => sB511 w (List.mem_cons_of_mem _ h)
theorem mB512 : Cond.methodLink RX6 179 yX6_canExecute ∈ wA0 := sB512 _ List.mem_cons_self
theorem sB513 : ∀ w ∈ wB513, w ∈ wA0 := fun w h => sB512 w (List.mem_cons_of_mem _ h)
theorem mB513 : Cond.instanceMethod yX6_canExecute ∈ wA0 := sB513 _ List.mem_cons_self
theorem sB514 : ∀ w ∈ wB514, w ∈ wA0 := fun w h => sB513 w (List.mem_cons_of_mem _ h)
theorem mB514 : Cond.selects RX6 yX6_canExecute yX6_canExecute ∈ wA0 := sB514 _ List.mem_cons_self
theorem sB515 : ∀ w ∈ wB515, w ∈ wA0 := fun w h => sB514 w (List.mem_cons_of_mem _ h)
theorem mB515 : Cond.code yX6_executeCommand cX6_executeCommand 2 (some .boolean) ∈ wA0 := sB515 _ List.mem_cons_self
theorem sB516 : ∀ w ∈ wB516, w ∈ wA0 := fun w h => sB515 w (List.mem_cons_of_mem _ h)
theorem mB516 : Cond.methodLink RX6 166 yX3_rewind ∈ wA0 := sB516 _ List.mem_cons_self
theorem sB517 : ∀ w ∈ wB517, w ∈ wA0 := fun w h => sB516 w (List.mem_cons_of_mem _ h)
theorem mB517 : Cond.methodLink RX6 169 yX3_readNextCommand ∈ wA0 := sB517 _ List.mem_cons_self
theorem sB518 : ∀ w ∈ wB518, w ∈ wA0 := fun w h => sB517 w (List.mem_cons_of_mem _ h)
theorem mB518 : Cond.instanceMethod yX3_readNextCommand ∈ wA0 := sB518 _ List.mem_cons_self
theorem sB519 : ∀ w ∈ wB519, w ∈ wA0 := fun w h => sB518 w (List.mem_cons_of_mem _ h)
theorem mB519 : Cond.selects RX3 yX3_readNextCommand yX3_readNextCommand ∈ wA0 := sB519 _ List.mem_cons_self
theorem sB520 : ∀ w ∈ wB520, w ∈ wA0 := fun w h => sB519 w (List.mem_cons_of_mem _ h)
theorem mB520 : Cond.methodLink RX6 172 yX6_executeCommand ∈ wA0 := sB520 _ List.mem_cons_self
theorem sB521 : ∀ w ∈ wB521, w ∈ wA0 := fun w h => sB520 w (List.mem_cons_of_mem _ h)
theorem mB521 : Cond.instanceMethod yX6_executeCommand ∈ wA0 := sB521 _ List.mem_cons_self
theorem sB522 : ∀ w ∈ wB522, w ∈ wA0 := fun w h => sB521 w (List.mem_cons_of_mem _ h)
theorem mB522 : Cond.selects RX6 yX6_executeCommand yX6_executeCommand ∈ wA0 := sB522 _ List.mem_cons_self
theorem sB523 : ∀ w ∈ wB523, w ∈ wA0 := fun w h => sB522 w (List.mem_cons_of_mem _ h)
theorem mB523 : Cond.code yX6_runText cX6_runText 2 (some .int) ∈ wA0 := sB523 _ List.mem_cons_self
theorem sB524 : ∀ w ∈ wB524, w ∈ wA0 := fun w h => sB523 w (List.mem_cons_of_mem _ h)
theorem mB524 : Cond.fieldLink RX6 194 "CommitWaitStore$SavedStates" "count" "I" ∈ wA0 := sB524 _ List.mem_cons_self
theorem sB525 : ∀ w ∈ wB525, w ∈ wA0 := fun w h => sB524 w (List.mem_cons_of_mem _ h)
theorem mB525 : Cond.methodLink RX6 199 yX0_popInto ∈ wA0 := sB525 _ List.mem_cons_self
theorem sB526 : ∀ w ∈ wB526, w ∈ wA0 := fun w h => sB525 w (List.mem_cons_of_mem _ h)
theorem mB526 : Cond.instanceMethod yX0_popInto ∈ wA0 := sB526 _ List.mem_cons_self
theorem sB527 : ∀ w ∈ wB527, w ∈ wA0 := fun w h => sB526 w (List.mem_cons_of_mem _ h)
theorem mB527 : Cond.selects RX0 yX0_popInto yX0_popInto ∈ wA0 := sB527 _ List.mem_cons_self
theorem sB528 : ∀ w ∈ wB528, w ∈ wA0 := fun w h => sB527 w (List.mem_cons_of_mem _ h)
theorem mB528 : Cond.code yX6_undo cX6_undo 1 (some .int) ∈ wA0 := sB528 _ List.mem_cons_self
theorem sB529 : ∀ w ∈ wB529, w ∈ wA0 := fun w h => sB528 w (List.mem_cons_of_mem _ h)
theorem mB529 : Cond.code yX6_requireSlot cX6_requireSlot 2 none ∈ wA0 := sB529 _ List.mem_cons_self
theorem sB530 : ∀ w ∈ wB530, w ∈ wA0 := fun w h => sB529 w (List.mem_cons_of_mem _ h)
theorem mB530 : Cond.methodLink RX6 202 yX6_requireSlot ∈ wA0 := sB530 _ List.mem_cons_self
theorem sB531 : ∀ w ∈ wB531, w ∈ wA0 := fun w h => sB530 w (List.mem_cons_of_mem _ h)
theorem mB531 : Cond.instanceMethod yX6_requireSlot ∈ wA0 := sB531 _ List.mem_cons_self
theorem sB532 : ∀ w ∈ wB532, w ∈ wA0 := fun w h => sB531 w (List.mem_cons_of_mem _ h)
theorem mB532 : Cond.selects RX6 yX6_requireSlot yX6_requireSlot ∈ wA0 := sB532 _ List.mem_cons_self
theorem sB533 : ∀ w ∈ wB533, w ∈ wA0 := fun w h => sB532 w (List.mem_cons_of_mem _ h)
theorem mB533 : Cond.methodLink RX6 205 yX2_copyFrom ∈ wA0 := sB533 _ List.mem_cons_self
theorem sB534 : ∀ w ∈ wB534, w ∈ wA0 := fun w h => sB533 w (List.mem_cons_of_mem _ h)
theorem mB534 : Cond.code yX6_save cX6_save 2 (some .int) ∈ wA0 := sB534 _ List.mem_cons_self
theorem sB535 : ∀ w ∈ wB535, w ∈ wA0 := fun w h => sB534 w (List.mem_cons_of_mem _ h)
theorem mB535 : Cond.code yX6_restore cX6_restore 2 (some .int) ∈ wA0 := sB535 _ List.mem_cons_self
theorem sB536 : ∀ w ∈ wB536, w ∈ wA0 := fun w h => sB535 w (List.mem_cons_of_mem _ h)
theorem mB536 : Cond.code yX6_trueTime cX6_trueTime 1 (some .int) ∈ wA0 := sB536 _ List.mem_cons_self
theorem sB537 : ∀ w ∈ wB537, w ∈ wA0 := fun w h => sB536 w (List.mem_cons_of_mem _ h)
theorem mB537 : Cond.code yX6_reading cX6_reading 2 (some .int) ∈ wA0 := sB537 _ List.mem_cons_self
theorem sB538 : ∀ w ∈ wB538, w ∈ wA0 := fun w h => sB537 w (List.mem_cons_of_mem _ h)
theorem mB538 : Cond.methodLink RX6 210 yX1_offsetAt ∈ wA0 := sB538 _ List.mem_cons_self
theorem sB539 : ∀ w ∈ wB539, w ∈ wA0 := fun w h => sB538 w (List.mem_cons_of_mem _ h)
theorem mB539 : Cond.methodLink RX6 213 yX1_earliestAt ∈ wA0 := sB539 _ List.mem_cons_self
theorem sB540 : ∀ w ∈ wB540, w ∈ wA0 := fun w h => sB539 w (List.mem_cons_of_mem _ h)
theorem mB540 : Cond.code yX6_earliest cX6_earliest 2 (some .int) ∈ wA0 := sB540 _ List.mem_cons_self
theorem sB541 : ∀ w ∈ wB541, w ∈ wA0 := fun w h => sB540 w (List.mem_cons_of_mem _ h)
theorem mB541 : Cond.methodLink RX6 216 yX1_latestAt ∈ wA0 := sB541 _ List.mem_cons_self
theorem sB542 : ∀ w ∈ wB542, w ∈ wA0 := fun w h => sB541 w (List.mem_cons_of_mem _ h)
theorem mB542 : Cond.code yX6_latest cX6_latest 2 (some .int) ∈ wA0 := sB542 _ List.mem_cons_self
theorem sB543 : ∀ w ∈ wB543, w ∈ wA0 := fun w h => sB542 w (List.mem_cons_of_mem _ h)
theorem mB543 : Cond.methodLink RX6 219 yX1_isSoundAt ∈ wA0 := sB543 _ List.mem_cons_self
theorem sB544 : ∀ w ∈ wB544, w ∈ wA0 := fun w h => sB543 w (List.mem_cons_of_mem _ h)
theorem mB544 : Cond.code yX6_isSound cX6_isSound 2 (some .boolean) ∈ wA0 := sB544 _ List.mem_cons_self
theorem sB545 : ∀ w ∈ wB545, w ∈ wA0 := fun w h => sB544 w (List.mem_cons_of_mem _ h)
theorem mB545 : Cond.methodLink RX6 222 yX2_nextTimestampOf ∈ wA0 := sB545 _ List.mem_cons_self
theorem sB546 : ∀ w ∈ wB546, w ∈ wA0 := fun w h => sB545 w (List.mem_cons_of_mem _ h)
theorem mB546 : Cond.code yX6_nextTimestamp cX6_nextTimestamp 2 (some .int) ∈ wA0 := sB546 _ List.mem_cons_self
theorem sB547 : ∀ w ∈ wB547, w ∈ wA0 := fun w h => sB546 w (List.mem_cons_of_mem _ h)
theorem mB547 : Cond.code yX6_transactions cX6_transactions 1 (some .int) ∈ wA0 := sB547 _ List.mem_cons_self
theorem sB548 : ∀ w ∈ wB548, w ∈ wA0 := fun w h => sB547 w (List.mem_cons_of_mem _ h)
theorem mB548 : Cond.code yX6_state cX6_state 2 (some .int) ∈ wA0 := sB548 _ List.mem_cons_self
theorem sB549 : ∀ w ∈ wB549, w ∈ wA0 := fun w h => sB548 w (List.mem_cons_of_mem _ h)
theorem mB549 : Cond.fieldLink RX6 228 "CommitWaitStore$Transactions" "status" "[I" ∈ wA0 := sB549 _ List.mem_cons_self
theorem sB550 : ∀ w ∈ wB550, w ∈ wA0 := fun w h => sB549 w (List.mem_cons_of_mem _ h)
theorem mB550 : Cond.code yX6_timestamp cX6_timestamp 2 (some .int) ∈ wA0 := sB550 _ List.mem_cons_self
theorem sB551 : ∀ w ∈ wB551, w ∈ wA0 := fun w h => sB550 w (List.mem_cons_of_mem _ h)
theorem mB551 : Cond.fieldLink RX6 231 "CommitWaitStore$Transactions" "timestamp" "[I" ∈ wA0 := sB551 _ List.mem_cons_self
theorem sB552 : ∀ w ∈ wB552, w ∈ wA0 := fun w h => sB551 w (List.mem_cons_of_mem _ h)
theorem mB552 : Cond.code yX6_requestTime cX6_requestTime 2 (some .int) ∈ wA0 := sB552 _ List.mem_cons_self
theorem sB553 : ∀ w ∈ wB553, w ∈ wA0 := fun w h => sB552 w (List.mem_cons_of_mem _ h)
theorem mB553 : Cond.fieldLink RX6 234 "CommitWaitStore$Transactions" "requestTime" "[I" ∈ wA0 := sB553 _ List.mem_cons_self
theorem sB554 : ∀ w ∈ wB554, w ∈ wA0 := fun w h => sB553 w (List.mem_cons_of_mem _ h)
theorem mB554 : Cond.code yX6_commitTime cX6_commitTime 2 (some .int) ∈ wA0 := sB554 _ List.mem_cons_self
theorem sB555 : ∀ w ∈ wB555, w ∈ wA0 := fun w h => sB554 w (List.mem_cons_of_mem _ h)
theorem mB555 : Cond.fieldLink RX6 237 "CommitWaitStore$Transactions" "commitTime" "[I" ∈ wA0 := sB555 _ List.mem_cons_self
theorem sB556 : ∀ w ∈ wB556, w ∈ wA0 := fun w h => sB555 w (List.mem_cons_of_mem _ h)
theorem mB556 : Cond.code yX6_bufferedValue cX6_bufferedValue 3 (some .int) ∈ wA0 := sB556 _ List.mem_cons_self
theorem sB557 : ∀ w ∈ wB557, w ∈ wA0 := fun w h => sB556 w (List.mem_cons_of_mem _ h)
theorem mB557 : Cond.methodLink RX6 240 yX4_bufferOf ∈ wA0 := sB557 _ List.mem_cons_self
theorem sB558 : ∀ w ∈ wB558, w ∈ wA0 := fun w h => sB557 w (List.mem_cons_of_mem _ h)
theorem mB558 : Cond.methodLink RX6 243 yX4_recordedVersion ∈ wA0 := sB558 _ List.mem_cons_self
theorem sB559 : ∀ w ∈ wB559, w ∈ wA0 := fun w h => sB558 w (List.mem_cons_of_mem _ h)
theorem mB559 : Cond.methodLink RX6 246 yX5_timestampOf ∈ wA0 := sB559 _ List.mem_cons_self
theorem sB560 : ∀ w ∈ wB560, w ∈ wA0 := fun w h => sB559 w (List.mem_cons_of_mem _ h)
theorem mB560 : Cond.code yX6_recordedTimestamp cX6_recordedTimestamp 4 (some .int) ∈ wA0 := sB560 _ List.mem_cons_self
theorem sB561 : ∀ w ∈ wB561, w ∈ wA0 := fun w h => sB560 w (List.mem_cons_of_mem _ h)
theorem mB561 : Cond.code yX6_ifCommitted cX6_ifCommitted 2 (some .int) ∈ wA0 := sB561 _ List.mem_cons_self
theorem sB562 : ∀ w ∈ wB562, w ∈ wA0 := fun w h => sB561 w (List.mem_cons_of_mem _ h)
theorem mB562 : Cond.methodLink RX6 249 yX2_ticksUntilCommitted ∈ wA0 := sB562 _ List.mem_cons_self
theorem sB563 : ∀ w ∈ wB563, w ∈ wA0 := fun w h => sB562 w (List.mem_cons_of_mem _ h)
theorem mB563 : Cond.code yX6_ticksToCommit cX6_ticksToCommit 3 (some .int) ∈ wA0 := sB563 _ List.mem_cons_self
theorem sB564 : ∀ w ∈ wB564, w ∈ wA0 := fun w h => sB563 w (List.mem_cons_of_mem _ h)
theorem mB564 : Cond.code yX6_versions cX6_versions 2 (some .int) ∈ wA0 := sB564 _ List.mem_cons_self
theorem sB565 : ∀ w ∈ wB565, w ∈ wA0 := fun w h => sB564 w (List.mem_cons_of_mem _ h)
theorem mB565 : Cond.fieldLink RX6 252 "CommitWaitStore$Versions" "count" "[I" ∈ wA0 := sB565 _ List.mem_cons_self
theorem sB566 : ∀ w ∈ wB566, w ∈ wA0 := fun w h => sB565 w (List.mem_cons_of_mem _ h)
theorem mB566 : Cond.code yX6_versionTimestamp cX6_versionTimestamp 3 (some .int) ∈ wA0 := sB566 _ List.mem_cons_self
theorem sB567 : ∀ w ∈ wB567, w ∈ wA0 := fun w h => sB566 w (List.mem_cons_of_mem _ h)
theorem mB567 : Cond.code yX6_valueAt cX6_valueAt 3 (some .int) ∈ wA0 := sB567 _ List.mem_cons_self
theorem sB568 : ∀ w ∈ wB568, w ∈ wA0 := fun w h => sB567 w (List.mem_cons_of_mem _ h)
theorem mB568 : Cond.methodLink RX6 259 yX4_replay ∈ wA0 := sB568 _ List.mem_cons_self
theorem sB569 : ∀ w ∈ wB569, w ∈ wA0 := fun w h => sB568 w (List.mem_cons_of_mem _ h)
theorem mB569 : Cond.instanceMethod yX4_replay ∈ wA0 := sB569 _ List.mem_cons_self
theorem sB570 : ∀ w ∈ wB570, w ∈ wA0 := fun w h => sB569 w (List.mem_cons_of_mem _ h)
theorem mB570 : Cond.selects RX4 yX4_replay yX4_replay ∈ wA0 := sB570 _ List.mem_cons_self
theorem sB571 : ∀ w ∈ wB571, w ∈ wA0 := fun w h => sB570 w (List.mem_cons_of_mem _ h)
theorem mB571 : Cond.code yX6_replayedValueAt cX6_replayedValueAt 3 (some .int) ∈ wA0 := sB571 _ List.mem_cons_self
theorem sB572 : ∀ w ∈ wB572, w ∈ wA0 := fun w h => sB571 w (List.mem_cons_of_mem _ h)
theorem mB572 : Cond.code yX6_waitingWriter cX6_waitingWriter 2 (some .int) ∈ wA0 := sB572 _ List.mem_cons_self
theorem sB573 : ∀ w ∈ wB573, w ∈ wA0 := fun w h => sB572 w (List.mem_cons_of_mem _ h)
theorem mB573 : Cond.methodLink RX6 262 yX4_findWaitingWriter ∈ wA0 := sB573 _ List.mem_cons_self
theorem sB574 : ∀ w ∈ wB574, w ∈ wA0 := fun w h => sB573 w (List.mem_cons_of_mem _ h)
theorem mB574 : Cond.instanceMethod yX4_findWaitingWriter ∈ wA0 := sB574 _ List.mem_cons_self
theorem sB575 : ∀ w ∈ wB575, w ∈ wA0 := fun w h => sB574 w (List.mem_cons_of_mem _ h)
theorem mB575 : Cond.selects RX4 yX4_findWaitingWriter yX4_findWaitingWriter ∈ wA0 := sB575 _ List.mem_cons_self
theorem sB576 : ∀ w ∈ wB576, w ∈ wA0 := fun w h => sB575 w (List.mem_cons_of_mem _ h)
theorem mB576 : Cond.methodLink RX6 265 yX4_greatestReaderTimestamp ∈ wA0 := sB576 _ List.mem_cons_self
theorem sB577 : ∀ w ∈ wB577, w ∈ wA0 := fun w h => sB576 w (List.mem_cons_of_mem _ h)
theorem mB577 : Cond.code yX6_readerMark cX6_readerMark 2 (some .int) ∈ wA0 := sB577 _ List.mem_cons_self
theorem sB578 : ∀ w ∈ wB578, w ∈ wA0 := fun w h => sB577 w (List.mem_cons_of_mem _ h)
theorem mB578 : Cond.code yX6_safeTime cX6_safeTime 1 (some .int) ∈ wA0 := sB578 _ List.mem_cons_self
theorem sB579 : ∀ w ∈ wB579, w ∈ wA0 := fun w h => sB578 w (List.mem_cons_of_mem _ h)
theorem mB579 : Cond.code yX6_readFloor cX6_readFloor 1 (some .int) ∈ wA0 := sB579 _ List.mem_cons_self
theorem sB580 : ∀ w ∈ wB580, w ∈ wA0 := fun w h => sB579 w (List.mem_cons_of_mem _ h)
theorem mB580 : Cond.methodLink RX6 268 yX2_ticksUntilSafeAt ∈ wA0 := sB580 _ List.mem_cons_self
theorem sB581 : ∀ w ∈ wB581, w ∈ wA0 := fun w h => sB580 w (List.mem_cons_of_mem _ h)
theorem mB581 : Cond.instanceMethod yX2_ticksUntilSafeAt ∈ wA0 := sB581 _ List.mem_cons_self
theorem sB582 : ∀ w ∈ wB582, w ∈ wA0 := fun w h => sB581 w (List.mem_cons_of_mem _ h)
theorem mB582 : Cond.selects RX2 yX2_ticksUntilSafeAt yX2_ticksUntilSafeAt ∈ wA0 := sB582 _ List.mem_cons_self
theorem sB583 : ∀ w ∈ wB583, w ∈ wA0 := fun w h => sB582 w (List.mem_cons_of_mem _ h)
theorem mB583 : Cond.code yX6_ticksUntilSafe cX6_ticksUntilSafe 3 (some .int) ∈ wA0 := sB583 _ List.mem_cons_self
theorem sB584 : ∀ w ∈ wB584, w ∈ wA0 := fun w h => sB583 w (List.mem_cons_of_mem _ h)
theorem mB584 : Cond.code yX6_countInState cX6_countInState 2 (some .int) ∈ wA0 := sB584 _ List.mem_cons_self
theorem sB585 : ∀ w ∈ wB585, w ∈ wA0 := fun w h => sB584 w (List.mem_cons_of_mem _ h)
theorem mB585 : Cond.methodLink RX6 271 yX4_countWithStatus ∈ wA0 := sB585 _ List.mem_cons_self
theorem sB586 : ∀ w ∈ wB586, w ∈ wA0 := fun w h => sB585 w (List.mem_cons_of_mem _ h)
theorem mB586 : Cond.instanceMethod yX4_countWithStatus ∈ wA0 := sB586 _ List.mem_cons_self
theorem sB587 : ∀ w ∈ wB587, w ∈ wA0 := fun w h => sB586 w (List.mem_cons_of_mem _ h)
theorem mB587 : Cond.selects RX4 yX4_countWithStatus yX4_countWithStatus ∈ wA0 := sB587 _ List.mem_cons_self
theorem sB588 : ∀ w ∈ wB588, w ∈ wA0 := fun w h => sB587 w (List.mem_cons_of_mem _ h)
theorem mB588 : Cond.code yX6_totalWait cX6_totalWait 1 (some .int) ∈ wA0 := sB588 _ List.mem_cons_self
theorem sB589 : ∀ w ∈ wB589, w ∈ wA0 := fun w h => sB588 w (List.mem_cons_of_mem _ h)
theorem mB589 : Cond.methodLink RX6 274 yX4_sumOfWaits ∈ wA0 := sB589 _ List.mem_cons_self
theorem sB590 : ∀ w ∈ wB590, w ∈ wA0 := fun w h => sB589 w (List.mem_cons_of_mem _ h)
theorem mB590 : Cond.instanceMethod yX4_sumOfWaits ∈ wA0 := sB590 _ List.mem_cons_self
theorem sB591 : ∀ w ∈ wB591, w ∈ wA0 := fun w h => sB590 w (List.mem_cons_of_mem _ h)
theorem mB591 : Cond.selects RX4 yX4_sumOfWaits yX4_sumOfWaits ∈ wA0 := sB591 _ List.mem_cons_self
theorem sB592 : ∀ w ∈ wB592, w ∈ wA0 := fun w h => sB591 w (List.mem_cons_of_mem _ h)
theorem mB592 : Cond.code yX6_unsoundUses cX6_unsoundUses 1 (some .int) ∈ wA0 := sB592 _ List.mem_cons_self
theorem sB593 : ∀ w ∈ wB593, w ∈ wA0 := fun w h => sB592 w (List.mem_cons_of_mem _ h)
theorem mB593 : Cond.fieldLink RX6 277 "CommitWaitStore$State" "unsoundUses" "I" ∈ wA0 := sB593 _ List.mem_cons_self
theorem sB594 : ∀ w ∈ wB594, w ∈ wA0 := fun w h => sB593 w (List.mem_cons_of_mem _ h)
theorem mB594 : Cond.code yX6_inversions cX6_inversions 1 (some .int) ∈ wA0 := sB594 _ List.mem_cons_self
theorem sB595 : ∀ w ∈ wB595, w ∈ wA0 := fun w h => sB594 w (List.mem_cons_of_mem _ h)
theorem mB595 : Cond.methodLink RX6 280 yX4_countInversions ∈ wA0 := sB595 _ List.mem_cons_self
theorem sB596 : ∀ w ∈ wB596, w ∈ wA0 := fun w h => sB595 w (List.mem_cons_of_mem _ h)
theorem mB596 : Cond.instanceMethod yX4_countInversions ∈ wA0 := sB596 _ List.mem_cons_self
theorem sB597 : ∀ w ∈ wB597, w ∈ wA0 := fun w h => sB596 w (List.mem_cons_of_mem _ h)
theorem mB597 : Cond.selects RX4 yX4_countInversions yX4_countInversions ∈ wA0 := sB597 _ List.mem_cons_self
theorem sB598 : ∀ w ∈ wB598, w ∈ wA0 := fun w h => sB597 w (List.mem_cons_of_mem _ h)
theorem mB598 : Cond.code yX6_savedStates cX6_savedStates 1 (some .int) ∈ wA0 := sB598 _ List.mem_cons_self
theorem sB599 : ∀ w ∈ wB599, w ∈ wA0 := fun w h => sB598 w (List.mem_cons_of_mem _ h)
theorem mB599 : Cond.code yX6_textLength cX6_textLength 1 (some .int) ∈ wA0 := sB599 _ List.mem_cons_self
theorem sB600 : ∀ w ∈ wB600, w ∈ wA0 := fun w h => sB599 w (List.mem_cons_of_mem _ h)
theorem mB600 : Cond.code yX7_init cX7_init 2 none ∈ wA0 := sB600 _ List.mem_cons_self
theorem sB601 : ∀ w ∈ wB601, w ∈ wA0 := fun w h => sB600 w (List.mem_cons_of_mem _ h)
theorem mB601 : Cond.methodLink RX7 1 objectInit ∈ wA0 := sB601 _ List.mem_cons_self
theorem sB602 : ∀ w ∈ wB602, w ∈ wA0 := fun w h => sB601 w (List.mem_cons_of_mem _ h)
theorem mB602 : Cond.fieldLink RX7 7 "CommitWaitStoreModel" "s" "[I" ∈ wA0 := sB602 _ List.mem_cons_self
theorem sB603 : ∀ w ∈ wB603, w ∈ wA0 := fun w h => sB602 w (List.mem_cons_of_mem _ h)
theorem mB603 : Cond.fieldLink RX7 13 "CommitWaitStoreModel" "past" "[I" ∈ wA0 := sB603 _ List.mem_cons_self
theorem sB604 : ∀ w ∈ wB604, w ∈ wA0 := fun w h => sB603 w (List.mem_cons_of_mem _ h)
theorem mB604 : Cond.fieldLink RX7 16 "CommitWaitStoreModel" "slots" "[I" ∈ wA0 := sB604 _ List.mem_cons_self
theorem sB605 : ∀ w ∈ wB605, w ∈ wA0 := fun w h => sB604 w (List.mem_cons_of_mem _ h)
theorem mB605 : Cond.fieldLink RX7 19 "CommitWaitStoreModel" "isFilled" "[Z" ∈ wA0 := sB605 _ List.mem_cons_self
theorem sB606 : ∀ w ∈ wB606, w ∈ wA0 := fun w h => sB605 w (List.mem_cons_of_mem _ h)
theorem mB606 : Cond.fieldLink RX7 23 "CommitWaitStoreModel" "text" "[I" ∈ wA0 := sB606 _ List.mem_cons_self
theorem sB607 : ∀ w ∈ wB607, w ∈ wA0 := fun w h => sB606 w (List.mem_cons_of_mem _ h)
theorem mB607 : Cond.code yX7_thrown cX7_thrown 1 (some .int) ∈ wA0 := sB607 _ List.mem_cons_self
theorem sB608 : ∀ w ∈ wB608, w ∈ wA0 := fun w h => sB607 w (List.mem_cons_of_mem _ h)
theorem mB608 : Cond.fieldLink RX7 26 "CommitWaitStoreModel" "thrown" "I" ∈ wA0 := sB608 _ List.mem_cons_self
theorem sB609 : ∀ w ∈ wB609, w ∈ wA0 := fun w h => sB608 w (List.mem_cons_of_mem _ h)
theorem mB609 : Cond.code yX7_throwsAt cX7_throwsAt 2 (some .boolean) ∈ wA0 := sB609 _ List.mem_cons_self
theorem sB610 : ∀ w ∈ wB610, w ∈ wA0 := fun w h => sB609 w (List.mem_cons_of_mem _ h)
theorem mB610 : Cond.code yX7_in cX7_in 3 (some .boolean) ∈ wA0 := sB610 _ List.mem_cons_self
theorem sB611 : ∀ w ∈ wB611, w ∈ wA0 := fun w h => sB610 w (List.mem_cons_of_mem _ h)
theorem mB611 : Cond.code yX7_isServer cX7_isServer 1 (some .boolean) ∈ wA0 := sB611 _ List.mem_cons_self
theorem sB612 : ∀ w ∈ wB612, w ∈ wA0 := fun w h => sB611 w (List.mem_cons_of_mem _ h)
theorem mB612 : Cond.methodLink RX7 30 yX7_in ∈ wA0 := sB612 _ List.mem_cons_self
theorem sB613 : ∀ w ∈ wB613, w ∈ wA0 := fun w h => sB612 w (List.mem_cons_of_mem _ h)
theorem mB613 : Cond.static yX7_in ∈ wA0 := sB613 _ List.mem_cons_self
theorem sB614 : ∀ w ∈ wB614, w ∈ wA0 := fun w h => sB613 w (List.mem_cons_of_mem _ h)
theorem mB614 : Cond.initialized RX7 ∈ wA0 := sB614 _ List.mem_cons_self
theorem sB615 : ∀ w ∈ wB615, w ∈ wA0 := fun w h => sB614 w (List.mem_cons_of_mem _ h)
theorem mB615 : Cond.code yX7_isKey cX7_isKey 1 (some .boolean) ∈ wA0 := sB615 _ List.mem_cons_self
theorem sB616 : ∀ w ∈ wB616, w ∈ wA0 := fun w h => sB615 w (List.mem_cons_of_mem _ h)
theorem mB616 : Cond.code yX7_isTransaction cX7_isTransaction 2 (some .boolean) ∈ wA0 := sB616 _ List.mem_cons_self
theorem sB617 : ∀ w ∈ wB617, w ∈ wA0 := fun w h => sB616 w (List.mem_cons_of_mem _ h)
theorem mB617 : Cond.code yX7_greater cX7_greater 2 (some .int) ∈ wA0 := sB617 _ List.mem_cons_self
theorem sB618 : ∀ w ∈ wB618, w ∈ wA0 := fun w h => sB617 w (List.mem_cons_of_mem _ h)
theorem mB618 : Cond.code yX7_saves cX7_saves 2 none ∈ wA0 := sB618 _ List.mem_cons_self
theorem sB619 : ∀ w ∈ wB619, w ∈ wA0 := fun w h => sB618 w (List.mem_cons_of_mem _ h)
theorem mB619 : Cond.fieldLink RX7 34 "CommitWaitStoreModel" "saved" "I" ∈ wA0 := sB619 _ List.mem_cons_self
theorem sB620 : ∀ w ∈ wB620, w ∈ wA0 := fun w h => sB619 w (List.mem_cons_of_mem _ h)
theorem mB620 : Cond.code yX7_down cX7_down 1 (some .int) ∈ wA0 := sB620 _ List.mem_cons_self
theorem sB621 : ∀ w ∈ wB621, w ∈ wA0 := fun w h => sB620 w (List.mem_cons_of_mem _ h)
theorem mB621 : Cond.code yX7_clock cX7_clock 3 (some .int) ∈ wA0 := sB621 _ List.mem_cons_self
theorem sB622 : ∀ w ∈ wB622, w ∈ wA0 := fun w h => sB621 w (List.mem_cons_of_mem _ h)
theorem mB622 : Cond.code yX7_sets cX7_sets 4 none ∈ wA0 := sB622 _ List.mem_cons_self
theorem sB623 : ∀ w ∈ wB623, w ∈ wA0 := fun w h => sB622 w (List.mem_cons_of_mem _ h)
theorem mB623 : Cond.code yX7_offset cX7_offset 3 (some .int) ∈ wA0 := sB623 _ List.mem_cons_self
theorem sB624 : ∀ w ∈ wB624, w ∈ wA0 := fun w h => sB623 w (List.mem_cons_of_mem _ h)
theorem mB624 : Cond.methodLink RX7 37 yX7_clock ∈ wA0 := sB624 _ List.mem_cons_self
theorem sB625 : ∀ w ∈ wB625, w ∈ wA0 := fun w h => sB624 w (List.mem_cons_of_mem _ h)
theorem mB625 : Cond.instanceMethod yX7_clock ∈ wA0 := sB625 _ List.mem_cons_self
theorem sB626 : ∀ w ∈ wB626, w ∈ wA0 := fun w h => sB625 w (List.mem_cons_of_mem _ h)
theorem mB626 : Cond.selects RX7 yX7_clock yX7_clock ∈ wA0 := sB626 _ List.mem_cons_self
theorem sB627 : ∀ w ∈ wB627, w ∈ wA0 := fun w h => sB626 w (List.mem_cons_of_mem _ h)
theorem mB627 : Cond.methodLink RX7 41 yX7_down ∈ wA0 := sB627 _ List.mem_cons_self
theorem sB628 : ∀ w ∈ wB628, w ∈ wA0 := fun w h => sB627 w (List.mem_cons_of_mem _ h)
theorem mB628 : Cond.static yX7_down ∈ wA0 := sB628 _ List.mem_cons_self
theorem sB629 : ∀ w ∈ wB629, w ∈ wA0 := fun w h => sB628 w (List.mem_cons_of_mem _ h)
theorem mB629 : Cond.code yX7_uncertainty cX7_uncertainty 3 (some .int) ∈ wA0 := sB629 _ List.mem_cons_self
theorem sB630 : ∀ w ∈ wB630, w ∈ wA0 := fun w h => sB629 w (List.mem_cons_of_mem _ h)
theorem mB630 : Cond.code yX7_earliestAt cX7_earliestAt 3 (some .int) ∈ wA0 := sB630 _ List.mem_cons_self
theorem sB631 : ∀ w ∈ wB631, w ∈ wA0 := fun w h => sB630 w (List.mem_cons_of_mem _ h)
theorem mB631 : Cond.methodLink RX7 45 yX7_offset ∈ wA0 := sB631 _ List.mem_cons_self
theorem sB632 : ∀ w ∈ wB632, w ∈ wA0 := fun w h => sB631 w (List.mem_cons_of_mem _ h)
theorem mB632 : Cond.instanceMethod yX7_offset ∈ wA0 := sB632 _ List.mem_cons_self
theorem sB633 : ∀ w ∈ wB633, w ∈ wA0 := fun w h => sB632 w (List.mem_cons_of_mem _ h)
theorem mB633 : Cond.selects RX7 yX7_offset yX7_offset ∈ wA0 := sB633 _ List.mem_cons_self
theorem sB634 : ∀ w ∈ wB634, w ∈ wA0 := fun w h => sB633 w (List.mem_cons_of_mem _ h)
theorem mB634 : Cond.methodLink RX7 48 yX7_uncertainty ∈ wA0 := sB634 _ List.mem_cons_self
theorem sB635 : ∀ w ∈ wB635, w ∈ wA0 := fun w h => sB634 w (List.mem_cons_of_mem _ h)
theorem mB635 : Cond.instanceMethod yX7_uncertainty ∈ wA0 := sB635 _ List.mem_cons_self
theorem sB636 : ∀ w ∈ wB636, w ∈ wA0 := fun w h => sB635 w (List.mem_cons_of_mem _ h)
theorem mB636 : Cond.selects RX7 yX7_uncertainty yX7_uncertainty ∈ wA0 := sB636 _ List.mem_cons_self
theorem sB637 : ∀ w ∈ wB637, w ∈ wA0 := fun w h => sB636 w (List.mem_cons_of_mem _ h)
theorem mB637 : Cond.code yX7_latestAt cX7_latestAt 3 (some .int) ∈ wA0 := sB637 _ List.mem_cons_self
theorem sB638 : ∀ w ∈ wB638, w ∈ wA0 := fun w h => sB637 w (List.mem_cons_of_mem _ h)
theorem mB638 : Cond.methodLink RX7 51 yX7_earliestAt ∈ wA0 := sB638 _ List.mem_cons_self
theorem sB639 : ∀ w ∈ wB639, w ∈ wA0 := fun w h => sB638 w (List.mem_cons_of_mem _ h)
theorem mB639 : Cond.instanceMethod yX7_earliestAt ∈ wA0 := sB639 _ List.mem_cons_self
theorem sB640 : ∀ w ∈ wB640, w ∈ wA0 := fun w h => sB639 w (List.mem_cons_of_mem _ h)
theorem mB640 : Cond.selects RX7 yX7_earliestAt yX7_earliestAt ∈ wA0 := sB640 _ List.mem_cons_self
theorem sB641 : ∀ w ∈ wB641, w ∈ wA0 := fun w h => sB640 w (List.mem_cons_of_mem _ h)
theorem mB641 : Cond.methodLink RX7 54 yX7_latestAt ∈ wA0 := sB641 _ List.mem_cons_self
theorem sB642 : ∀ w ∈ wB642, w ∈ wA0 := fun w h => sB641 w (List.mem_cons_of_mem _ h)
theorem mB642 : Cond.instanceMethod yX7_latestAt ∈ wA0 := sB642 _ List.mem_cons_self
theorem sB643 : ∀ w ∈ wB643, w ∈ wA0 := fun w h => sB642 w (List.mem_cons_of_mem _ h)
theorem mB643 : Cond.selects RX7 yX7_latestAt yX7_latestAt ∈ wA0 := sB643 _ List.mem_cons_self
theorem sB644 : ∀ w ∈ wB644, w ∈ wA0 := fun w h => sB643 w (List.mem_cons_of_mem _ h)
theorem mB644 : Cond.code yX7_isSoundAt cX7_isSoundAt 3 (some .boolean) ∈ wA0 := sB644 _ List.mem_cons_self
theorem sB645 : ∀ w ∈ wB645, w ∈ wA0 := fun w h => sB644 w (List.mem_cons_of_mem _ h)
theorem mB645 : Cond.methodLink RX7 57 yX7_isSoundAt ∈ wA0 := sB645 _ List.mem_cons_self
theorem sB646 : ∀ w ∈ wB646, w ∈ wA0 := fun w h => sB645 w (List.mem_cons_of_mem _ h)
theorem mB646 : Cond.instanceMethod yX7_isSoundAt ∈ wA0 := sB646 _ List.mem_cons_self
theorem sB647 : ∀ w ∈ wB647, w ∈ wA0 := fun w h => sB646 w (List.mem_cons_of_mem _ h)
theorem mB647 : Cond.selects RX7 yX7_isSoundAt yX7_isSoundAt ∈ wA0 := sB647 _ List.mem_cons_self
theorem sB648 : ∀ w ∈ wB648, w ∈ wA0 := fun w h => sB647 w (List.mem_cons_of_mem _ h)
theorem mB648 : Cond.code yX7_uses cX7_uses 2 none ∈ wA0 := sB648 _ List.mem_cons_self
theorem sB649 : ∀ w ∈ wB649, w ∈ wA0 := fun w h => sB648 w (List.mem_cons_of_mem _ h)
theorem mB649 : Cond.code yX7_of cX7_of 3 (some .int) ∈ wA0 := sB649 _ List.mem_cons_self
theorem sB650 : ∀ w ∈ wB650, w ∈ wA0 := fun w h => sB649 w (List.mem_cons_of_mem _ h)
theorem mB650 : Cond.code yX7_lays cX7_lays 3 none ∈ wA0 := sB650 _ List.mem_cons_self
theorem sB651 : ∀ w ∈ wB651, w ∈ wA0 := fun w h => sB650 w (List.mem_cons_of_mem _ h)
theorem mB651 : Cond.code yX7_hasWritten cX7_hasWritten 3 (some .boolean) ∈ wA0 := sB651 _ List.mem_cons_self
theorem sB652 : ∀ w ∈ wB652, w ∈ wA0 := fun w h => sB651 w (List.mem_cons_of_mem _ h)
theorem mB652 : Cond.methodLink RX7 61 yX7_of ∈ wA0 := sB652 _ List.mem_cons_self
theorem sB653 : ∀ w ∈ wB653, w ∈ wA0 := fun w h => sB652 w (List.mem_cons_of_mem _ h)
theorem mB653 : Cond.instanceMethod yX7_of ∈ wA0 := sB653 _ List.mem_cons_self
theorem sB654 : ∀ w ∈ wB654, w ∈ wA0 := fun w h => sB653 w (List.mem_cons_of_mem _ h)
theorem mB654 : Cond.selects RX7 yX7_of yX7_of ∈ wA0 := sB654 _ List.mem_cons_self
theorem sB655 : ∀ w ∈ wB655, w ∈ wA0 := fun w h => sB654 w (List.mem_cons_of_mem _ h)
theorem mB655 : Cond.code yX7_hasRead cX7_hasRead 3 (some .boolean) ∈ wA0 := sB655 _ List.mem_cons_self
theorem sB656 : ∀ w ∈ wB656, w ∈ wA0 := fun w h => sB655 w (List.mem_cons_of_mem _ h)
theorem mB656 : Cond.code yX7_written cX7_written 4 (some .int) ∈ wA0 := sB656 _ List.mem_cons_self
theorem sB657 : ∀ w ∈ wB657, w ∈ wA0 := fun w h => sB656 w (List.mem_cons_of_mem _ h)
theorem mB657 : Cond.methodLink RX7 64 yX7_hasWritten ∈ wA0 := sB657 _ List.mem_cons_self
theorem sB658 : ∀ w ∈ wB658, w ∈ wA0 := fun w h => sB657 w (List.mem_cons_of_mem _ h)
theorem mB658 : Cond.instanceMethod yX7_hasWritten ∈ wA0 := sB658 _ List.mem_cons_self
theorem sB659 : ∀ w ∈ wB659, w ∈ wA0 := fun w h => sB658 w (List.mem_cons_of_mem _ h)
theorem mB659 : Cond.selects RX7 yX7_hasWritten yX7_hasWritten ∈ wA0 := sB659 _ List.mem_cons_self
theorem sB660 : ∀ w ∈ wB660, w ∈ wA0 := fun w h => sB659 w (List.mem_cons_of_mem _ h)
theorem mB660 : Cond.code yX7_isVersion cX7_isVersion 3 (some .boolean) ∈ wA0 := sB660 _ List.mem_cons_self
theorem sB661 : ∀ w ∈ wB661, w ∈ wA0 := fun w h => sB660 w (List.mem_cons_of_mem _ h)
theorem mB661 : Cond.code yX7_writer cX7_writer 5 (some .int) ∈ wA0 := sB661 _ List.mem_cons_self
theorem sB662 : ∀ w ∈ wB662, w ∈ wA0 := fun w h => sB661 w (List.mem_cons_of_mem _ h)
theorem mB662 : Cond.methodLink RX7 67 yX7_isVersion ∈ wA0 := sB662 _ List.mem_cons_self
theorem sB663 : ∀ w ∈ wB663, w ∈ wA0 := fun w h => sB662 w (List.mem_cons_of_mem _ h)
theorem mB663 : Cond.instanceMethod yX7_isVersion ∈ wA0 := sB663 _ List.mem_cons_self
theorem sB664 : ∀ w ∈ wB664, w ∈ wA0 := fun w h => sB663 w (List.mem_cons_of_mem _ h)
theorem mB664 : Cond.selects RX7 yX7_isVersion yX7_isVersion ∈ wA0 := sB664 _ List.mem_cons_self
theorem sB665 : ∀ w ∈ wB665, w ∈ wA0 := fun w h => sB664 w (List.mem_cons_of_mem _ h)
theorem mB665 : Cond.code yX7_value cX7_value 4 (some .int) ∈ wA0 := sB665 _ List.mem_cons_self
theorem sB666 : ∀ w ∈ wB666, w ∈ wA0 := fun w h => sB665 w (List.mem_cons_of_mem _ h)
theorem mB666 : Cond.methodLink RX7 70 yX7_writer ∈ wA0 := sB666 _ List.mem_cons_self
theorem sB667 : ∀ w ∈ wB667, w ∈ wA0 := fun w h => sB666 w (List.mem_cons_of_mem _ h)
theorem mB667 : Cond.instanceMethod yX7_writer ∈ wA0 := sB667 _ List.mem_cons_self
theorem sB668 : ∀ w ∈ wB668, w ∈ wA0 := fun w h => sB667 w (List.mem_cons_of_mem _ h)
theorem mB668 : Cond.selects RX7 yX7_writer yX7_writer ∈ wA0 := sB668 _ List.mem_cons_self
theorem sB669 : ∀ w ∈ wB669, w ∈ wA0 := fun w h => sB668 w (List.mem_cons_of_mem _ h)
theorem mB669 : Cond.code yX7_newest cX7_newest 3 (some .int) ∈ wA0 := sB669 _ List.mem_cons_self
theorem sB670 : ∀ w ∈ wB670, w ∈ wA0 := fun w h => sB669 w (List.mem_cons_of_mem _ h)
theorem mB670 : Cond.constant RX7 73 (2000000000) ∈ wA0 := sB670 _ List.mem_cons_self
theorem sB671 : ∀ w ∈ wB671, w ∈ wA0 := fun w h => sB670 w (List.mem_cons_of_mem _ h)
theorem mB671 : Cond.code yX7_mark cX7_mark 4 (some .int) ∈ wA0 := sB671 _ List.mem_cons_self
theorem sB672 : ∀ w ∈ wB672, w ∈ wA0 := fun w h => sB671 w (List.mem_cons_of_mem _ h)
theorem mB672 : Cond.methodLink RX7 74 yX7_hasRead ∈ wA0 := sB672 _ List.mem_cons_self
theorem sB673 : ∀ w ∈ wB673, w ∈ wA0 := fun w h => sB672 w (List.mem_cons_of_mem _ h)
theorem mB673 : Cond.instanceMethod yX7_hasRead ∈ wA0 := sB673 _ List.mem_cons_self
theorem sB674 : ∀ w ∈ wB674, w ∈ wA0 := fun w h => sB673 w (List.mem_cons_of_mem _ h)
theorem mB674 : Cond.selects RX7 yX7_hasRead yX7_hasRead ∈ wA0 := sB674 _ List.mem_cons_self
theorem sB675 : ∀ w ∈ wB675, w ∈ wA0 := fun w h => sB674 w (List.mem_cons_of_mem _ h)
theorem mB675 : Cond.methodLink RX7 77 yX7_greater ∈ wA0 := sB675 _ List.mem_cons_self
theorem sB676 : ∀ w ∈ wB676, w ∈ wA0 := fun w h => sB675 w (List.mem_cons_of_mem _ h)
theorem mB676 : Cond.static yX7_greater ∈ wA0 := sB676 _ List.mem_cons_self
theorem sB677 : ∀ w ∈ wB677, w ∈ wA0 := fun w h => sB676 w (List.mem_cons_of_mem _ h)
theorem mB677 : Cond.methodLink RX7 80 yX7_newest ∈ wA0 := sB677 _ List.mem_cons_self
theorem sB678 : ∀ w ∈ wB678, w ∈ wA0 := fun w h => sB677 w (List.mem_cons_of_mem _ h)
theorem mB678 : Cond.instanceMethod yX7_newest ∈ wA0 := sB678 _ List.mem_cons_self
theorem sB679 : ∀ w ∈ wB679, w ∈ wA0 := fun w h => sB678 w (List.mem_cons_of_mem _ h)
theorem mB679 : Cond.selects RX7 yX7_newest yX7_newest ∈ wA0 := sB679 _ List.mem_cons_self
theorem sB680 : ∀ w ∈ wB680, w ∈ wA0 := fun w h => sB679 w (List.mem_cons_of_mem _ h)
theorem mB680 : Cond.code yX7_isConflict cX7_isConflict 4 (some .boolean) ∈ wA0 := sB680 _ List.mem_cons_self
theorem sB681 : ∀ w ∈ wB681, w ∈ wA0 := fun w h => sB680 w (List.mem_cons_of_mem _ h)
theorem mB681 : Cond.code yX7_bars cX7_bars 6 (some .boolean) ∈ wA0 := sB681 _ List.mem_cons_self
theorem sB682 : ∀ w ∈ wB682, w ∈ wA0 := fun w h => sB681 w (List.mem_cons_of_mem _ h)
theorem mB682 : Cond.code yX7_isLocked cX7_isLocked 4 (some .boolean) ∈ wA0 := sB682 _ List.mem_cons_self
theorem sB683 : ∀ w ∈ wB683, w ∈ wA0 := fun w h => sB682 w (List.mem_cons_of_mem _ h)
theorem mB683 : Cond.methodLink RX7 83 yX7_bars ∈ wA0 := sB683 _ List.mem_cons_self
theorem sB684 : ∀ w ∈ wB684, w ∈ wA0 := fun w h => sB683 w (List.mem_cons_of_mem _ h)
theorem mB684 : Cond.instanceMethod yX7_bars ∈ wA0 := sB684 _ List.mem_cons_self
theorem sB685 : ∀ w ∈ wB685, w ∈ wA0 := fun w h => sB684 w (List.mem_cons_of_mem _ h)
theorem mB685 : Cond.selects RX7 yX7_bars yX7_bars ∈ wA0 := sB685 _ List.mem_cons_self
theorem sB686 : ∀ w ∈ wB686, w ∈ wA0 := fun w h => sB685 w (List.mem_cons_of_mem _ h)
theorem mB686 : Cond.code yX7_next cX7_next 4 (some .int) ∈ wA0 := sB686 _ List.mem_cons_self
theorem sB687 : ∀ w ∈ wB687, w ∈ wA0 := fun w h => sB686 w (List.mem_cons_of_mem _ h)
theorem mB687 : Cond.methodLink RX7 86 yX7_next ∈ wA0 := sB687 _ List.mem_cons_self
theorem sB688 : ∀ w ∈ wB688, w ∈ wA0 := fun w h => sB687 w (List.mem_cons_of_mem _ h)
theorem mB688 : Cond.instanceMethod yX7_next ∈ wA0 := sB688 _ List.mem_cons_self
theorem sB689 : ∀ w ∈ wB689, w ∈ wA0 := fun w h => sB688 w (List.mem_cons_of_mem _ h)
theorem mB689 : Cond.selects RX7 yX7_next yX7_next ∈ wA0 := sB689 _ List.mem_cons_self
theorem sB690 : ∀ w ∈ wB690, w ∈ wA0 := fun w h => sB689 w (List.mem_cons_of_mem _ h)
theorem mB690 : Cond.methodLink RX7 89 yX7_mark ∈ wA0 := sB690 _ List.mem_cons_self
theorem sB691 : ∀ w ∈ wB691, w ∈ wA0 := fun w h => sB690 w (List.mem_cons_of_mem _ h)
theorem mB691 : Cond.instanceMethod yX7_mark ∈ wA0 := sB691 _ List.mem_cons_self
theorem sB692 : ∀ w ∈ wB692, w ∈ wA0 := fun w h => sB691 w (List.mem_cons_of_mem _ h)
theorem mB692 : Cond.selects RX7 yX7_mark yX7_mark ∈ wA0 := sB692 _ List.mem_cons_self
theorem sB693 : ∀ w ∈ wB693, w ∈ wA0 := fun w h => sB692 w (List.mem_cons_of_mem _ h)
theorem mB693 : Cond.code yX7_stamp cX7_stamp 5 (some .int) ∈ wA0 := sB693 _ List.mem_cons_self
theorem sB694 : ∀ w ∈ wB694, w ∈ wA0 := fun w h => sB693 w (List.mem_cons_of_mem _ h)
theorem mB694 : Cond.methodLink RX7 92 yX7_isConflict ∈ wA0 := sB694 _ List.mem_cons_self
theorem sB695 : ∀ w ∈ wB695, w ∈ wA0 := fun w h => sB694 w (List.mem_cons_of_mem _ h)
theorem mB695 : Cond.instanceMethod yX7_isConflict ∈ wA0 := sB695 _ List.mem_cons_self
theorem sB696 : ∀ w ∈ wB696, w ∈ wA0 := fun w h => sB695 w (List.mem_cons_of_mem _ h)
theorem mB696 : Cond.selects RX7 yX7_isConflict yX7_isConflict ∈ wA0 := sB696 _ List.mem_cons_self
theorem sB697 : ∀ w ∈ wB697, w ∈ wA0 := fun w h => sB696 w (List.mem_cons_of_mem _ h)
theorem mB697 : Cond.methodLink RX7 96 yX7_isLocked ∈ wA0 := sB697 _ List.mem_cons_self
theorem sB698 : ∀ w ∈ wB698, w ∈ wA0 := fun w h => sB697 w (List.mem_cons_of_mem _ h)
theorem mB698 : Cond.instanceMethod yX7_isLocked ∈ wA0 := sB698 _ List.mem_cons_self
theorem sB699 : ∀ w ∈ wB699, w ∈ wA0 := fun w h => sB698 w (List.mem_cons_of_mem _ h)
theorem mB699 : Cond.selects RX7 yX7_isLocked yX7_isLocked ∈ wA0 := sB699 _ List.mem_cons_self
theorem sB700 : ∀ w ∈ wB700, w ∈ wA0 := fun w h => sB699 w (List.mem_cons_of_mem _ h)
theorem mB700 : Cond.methodLink RX7 99 yX7_stamp ∈ wA0 := sB700 _ List.mem_cons_self
theorem sB701 : ∀ w ∈ wB701, w ∈ wA0 := fun w h => sB700 w (List.mem_cons_of_mem _ h)
theorem mB701 : Cond.instanceMethod yX7_stamp ∈ wA0 := sB701 _ List.mem_cons_self
theorem sB702 : ∀ w ∈ wB702, w ∈ wA0 := fun w h => sB701 w (List.mem_cons_of_mem _ h)
theorem mB702 : Cond.selects RX7 yX7_stamp yX7_stamp ∈ wA0 := sB702 _ List.mem_cons_self
theorem sB703 : ∀ w ∈ wB703, w ∈ wA0 := fun w h => sB702 w (List.mem_cons_of_mem _ h)
theorem mB703 : Cond.code yX7_outcome cX7_outcome 2 (some .int) ∈ wA0 := sB703 _ List.mem_cons_self
theorem sB704 : ∀ w ∈ wB704, w ∈ wA0 := fun w h => sB703 w (List.mem_cons_of_mem _ h)
theorem mB704 : Cond.code yX7_whyNotBegin cX7_whyNotBegin 2 (some .int) ∈ wA0 := sB704 _ List.mem_cons_self
theorem sB705 : ∀ w ∈ wB705, w ∈ wA0 := fun w h => sB704 w (List.mem_cons_of_mem _ h)
theorem mB705 : Cond.methodLink RX7 102 yX7_isServer ∈ wA0 := sB705 _ List.mem_cons_self
theorem sB706 : ∀ w ∈ wB706, w ∈ wA0 := fun w h => sB705 w (List.mem_cons_of_mem _ h)
theorem mB706 : Cond.static yX7_isServer ∈ wA0 := sB706 _ List.mem_cons_self
theorem sB707 : ∀ w ∈ wB707, w ∈ wA0 := fun w h => sB706 w (List.mem_cons_of_mem _ h)
theorem mB707 : Cond.code yX7_whyNot cX7_whyNot 2 (some .int) ∈ wA0 := sB707 _ List.mem_cons_self
theorem sB708 : ∀ w ∈ wB708, w ∈ wA0 := fun w h => sB707 w (List.mem_cons_of_mem _ h)
theorem mB708 : Cond.methodLink RX7 105 yX7_isTransaction ∈ wA0 := sB708 _ List.mem_cons_self
theorem sB709 : ∀ w ∈ wB709, w ∈ wA0 := fun w h => sB708 w (List.mem_cons_of_mem _ h)
theorem mB709 : Cond.instanceMethod yX7_isTransaction ∈ wA0 := sB709 _ List.mem_cons_self
theorem sB710 : ∀ w ∈ wB710, w ∈ wA0 := fun w h => sB709 w (List.mem_cons_of_mem _ h)
theorem mB710 : Cond.selects RX7 yX7_isTransaction yX7_isTransaction ∈ wA0 := sB710 _ List.mem_cons_self
theorem sB711 : ∀ w ∈ wB711, w ∈ wA0 := fun w h => sB710 w (List.mem_cons_of_mem _ h)
theorem mB711 : Cond.code yX7_whyNotRead cX7_whyNotRead 3 (some .int) ∈ wA0 := sB711 _ List.mem_cons_self
theorem sB712 : ∀ w ∈ wB712, w ∈ wA0 := fun w h => sB711 w (List.mem_cons_of_mem _ h)
theorem mB712 : Cond.methodLink RX7 108 yX7_isKey ∈ wA0 := sB712 _ List.mem_cons_self
theorem sB713 : ∀ w ∈ wB713, w ∈ wA0 := fun w h => sB712 w (List.mem_cons_of_mem _ h)
theorem mB713 : Cond.static yX7_isKey ∈ wA0 := sB713 _ List.mem_cons_self
theorem sB714 : ∀ w ∈ wB714, w ∈ wA0 := fun w h => sB713 w (List.mem_cons_of_mem _ h)
theorem mB714 : Cond.methodLink RX7 111 yX7_whyNot ∈ wA0 := sB714 _ List.mem_cons_self
theorem sB715 : ∀ w ∈ wB715, w ∈ wA0 := fun w h => sB714 w (List.mem_cons_of_mem _ h)
theorem mB715 : Cond.instanceMethod yX7_whyNot ∈ wA0 := sB715 _ List.mem_cons_self
theorem sB716 : ∀ w ∈ wB716, w ∈ wA0 := fun w h => sB715 w (List.mem_cons_of_mem _ h)
theorem mB716 : Cond.selects RX7 yX7_whyNot yX7_whyNot ∈ wA0 := sB716 _ List.mem_cons_self
theorem sB717 : ∀ w ∈ wB717, w ∈ wA0 := fun w h => sB716 w (List.mem_cons_of_mem _ h)
theorem mB717 : Cond.code yX7_whyNotWrite cX7_whyNotWrite 4 (some .int) ∈ wA0 := sB717 _ List.mem_cons_self
theorem sB718 : ∀ w ∈ wB718, w ∈ wA0 := fun w h => sB717 w (List.mem_cons_of_mem _ h)
theorem mB718 : Cond.code yX7_whyNotAdvance cX7_whyNotAdvance 2 (some .int) ∈ wA0 := sB718 _ List.mem_cons_self
theorem sB719 : ∀ w ∈ wB719, w ∈ wA0 := fun w h => sB718 w (List.mem_cons_of_mem _ h)
theorem mB719 : Cond.constant RX7 114 (1000000) ∈ wA0 := sB719 _ List.mem_cons_self
theorem sB720 : ∀ w ∈ wB720, w ∈ wA0 := fun w h => sB719 w (List.mem_cons_of_mem _ h)
theorem mB720 : Cond.code yX7_whyNotSynchronize cX7_whyNotSynchronize 3 (some .int) ∈ wA0 := sB720 _ List.mem_cons_self
theorem sB721 : ∀ w ∈ wB721, w ∈ wA0 := fun w h => sB720 w (List.mem_cons_of_mem _ h)
theorem mB721 : Cond.code yX7_begins cX7_begins 4 (some .int) ∈ wA0 := sB721 _ List.mem_cons_self
theorem sB722 : ∀ w ∈ wB722, w ∈ wA0 := fun w h => sB721 w (List.mem_cons_of_mem _ h)
theorem mB722 : Cond.methodLink RX7 115 yX7_lays ∈ wA0 := sB722 _ List.mem_cons_self
theorem sB723 : ∀ w ∈ wB723, w ∈ wA0 := fun w h => sB722 w (List.mem_cons_of_mem _ h)
theorem mB723 : Cond.instanceMethod yX7_lays ∈ wA0 := sB723 _ List.mem_cons_self
theorem sB724 : ∀ w ∈ wB724, w ∈ wA0 := fun w h => sB723 w (List.mem_cons_of_mem _ h)
theorem mB724 : Cond.selects RX7 yX7_lays yX7_lays ∈ wA0 := sB724 _ List.mem_cons_self
theorem sB725 : ∀ w ∈ wB725, w ∈ wA0 := fun w h => sB724 w (List.mem_cons_of_mem _ h)
theorem mB725 : Cond.methodLink RX7 119 yX7_value ∈ wA0 := sB725 _ List.mem_cons_self
theorem sB726 : ∀ w ∈ wB726, w ∈ wA0 := fun w h => sB725 w (List.mem_cons_of_mem _ h)
theorem mB726 : Cond.instanceMethod yX7_value ∈ wA0 := sB726 _ List.mem_cons_self
theorem sB727 : ∀ w ∈ wB727, w ∈ wA0 := fun w h => sB726 w (List.mem_cons_of_mem _ h)
theorem mB727 : Cond.selects RX7 yX7_value yX7_value ∈ wA0 := sB727 _ List.mem_cons_self
theorem sB728 : ∀ w ∈ wB728, w ∈ wA0 := fun w h => sB727 w (List.mem_cons_of_mem _ h)
theorem mB728 : Cond.code yX7_reads cX7_reads 3 (some .int) ∈ wA0 := sB728 _ List.mem_cons_self
theorem sB729 : ∀ w ∈ wB729, w ∈ wA0 := fun w h => sB728 w (List.mem_cons_of_mem _ h)
theorem mB729 : Cond.code yX7_writes cX7_writes 4 (some .int) ∈ wA0 := sB729 _ List.mem_cons_self
theorem sB730 : ∀ w ∈ wB730, w ∈ wA0 := fun w h => sB729 w (List.mem_cons_of_mem _ h)
theorem mB730 : Cond.methodLink RX7 122 yX7_written ∈ wA0 := sB730 _ List.mem_cons_self
theorem sB731 : ∀ w ∈ wB731, w ∈ wA0 := fun w h => sB730 w (List.mem_cons_of_mem _ h)
theorem mB731 : Cond.instanceMethod yX7_written ∈ wA0 := sB731 _ List.mem_cons_self
theorem sB732 : ∀ w ∈ wB732, w ∈ wA0 := fun w h => sB731 w (List.mem_cons_of_mem _ h)
theorem mB732 : Cond.selects RX7 yX7_written yX7_written ∈ wA0 := sB732 _ List.mem_cons_self
theorem sB733 : ∀ w ∈ wB733, w ∈ wA0 := fun w h => sB732 w (List.mem_cons_of_mem _ h)
theorem mB733 : Cond.methodLink RX7 125 yX7_uses ∈ wA0 := sB733 _ List.mem_cons_self
theorem sB734 : ∀ w ∈ wB734, w ∈ wA0 := fun w h => sB733 w (List.mem_cons_of_mem _ h)
theorem mB734 : Cond.instanceMethod yX7_uses ∈ wA0 := sB734 _ List.mem_cons_self
theorem sB735 : ∀ w ∈ wB735, w ∈ wA0 := fun w h => sB734 w (List.mem_cons_of_mem _ h)
theorem mB735 : Cond.selects RX7 yX7_uses yX7_uses ∈ wA0 := sB735 _ List.mem_cons_self
theorem sB736 : ∀ w ∈ wB736, w ∈ wA0 := fun w h => sB735 w (List.mem_cons_of_mem _ h)
theorem mB736 : Cond.code yX7_requests cX7_requests 3 none ∈ wA0 := sB736 _ List.mem_cons_self
theorem sB737 : ∀ w ∈ wB737, w ∈ wA0 := fun w h => sB736 w (List.mem_cons_of_mem _ h)
theorem mB737 : Cond.code yX7_advances cX7_advances 5 (some .int) ∈ wA0 := sB737 _ List.mem_cons_self
theorem sB738 : ∀ w ∈ wB738, w ∈ wA0 := fun w h => sB737 w (List.mem_cons_of_mem _ h)
theorem mB738 : Cond.code yX7_synchronizes cX7_synchronizes 4 (some .int) ∈ wA0 := sB738 _ List.mem_cons_self
theorem sB739 : ∀ w ∈ wB739, w ∈ wA0 := fun w h => sB738 w (List.mem_cons_of_mem _ h)
theorem mB739 : Cond.methodLink RX7 129 yX7_sets ∈ wA0 := sB739 _ List.mem_cons_self
theorem sB740 : ∀ w ∈ wB740, w ∈ wA0 := fun w h => sB739 w (List.mem_cons_of_mem _ h)
theorem mB740 : Cond.instanceMethod yX7_sets ∈ wA0 := sB740 _ List.mem_cons_self
theorem sB741 : ∀ w ∈ wB741, w ∈ wA0 := fun w h => sB740 w (List.mem_cons_of_mem _ h)
theorem mB741 : Cond.selects RX7 yX7_sets yX7_sets ∈ wA0 := sB741 _ List.mem_cons_self
theorem sB742 : ∀ w ∈ wB742, w ∈ wA0 := fun w h => sB741 w (List.mem_cons_of_mem _ h)
theorem mB742 : Cond.methodLink RX7 133 yX7_whyNotBegin ∈ wA0 := sB742 _ List.mem_cons_self
theorem sB743 : ∀ w ∈ wB743, w ∈ wA0 := fun w h => sB742 w (List.mem_cons_of_mem _ h)
theorem mB743 : Cond.instanceMethod yX7_whyNotBegin ∈ wA0 := sB743 _ List.mem_cons_self
theorem sB744 : ∀ w ∈ wB744, w ∈ wA0 := fun w h => sB743 w (List.mem_cons_of_mem _ h)
theorem mB744 : Cond.selects RX7 yX7_whyNotBegin yX7_whyNotBegin ∈ wA0 := sB744 _ List.mem_cons_self
theorem sB745 : ∀ w ∈ wB745, w ∈ wA0 := fun w h => sB744 w (List.mem_cons_of_mem _ h)
theorem mB745 : Cond.methodLink RX7 136 yX7_throwsAt ∈ wA0 := sB745 _ List.mem_cons_self
theorem sB746 : ∀ w ∈ wB746, w ∈ wA0 := fun w h => sB745 w (List.mem_cons_of_mem _ h)
theorem mB746 : Cond.instanceMethod yX7_throwsAt ∈ wA0 := sB746 _ List.mem_cons_self
theorem sB747 : ∀ w ∈ wB747, w ∈ wA0 := fun w h => sB746 w (List.mem_cons_of_mem _ h)
theorem mB747 : Cond.selects RX7 yX7_throwsAt yX7_throwsAt ∈ wA0 := sB747 _ List.mem_cons_self
theorem sB748 : ∀ w ∈ wB748, w ∈ wA0 := fun w h => sB747 w (List.mem_cons_of_mem _ h)
theorem mB748 : Cond.methodLink RX7 139 yX7_saves ∈ wA0 := sB748 _ List.mem_cons_self
theorem sB749 : ∀ w ∈ wB749, w ∈ wA0 := fun w h => sB748 w (List.mem_cons_of_mem _ h)
theorem mB749 : Cond.instanceMethod yX7_saves ∈ wA0 := sB749 _ List.mem_cons_self
theorem sB750 : ∀ w ∈ wB750, w ∈ wA0 := fun w h => sB749 w (List.mem_cons_of_mem _ h)
theorem mB750 : Cond.selects RX7 yX7_saves yX7_saves ∈ wA0 := sB750 _ List.mem_cons_self
theorem sB751 : ∀ w ∈ wB751, w ∈ wA0 := fun w h => sB750 w (List.mem_cons_of_mem _ h)
theorem mB751 : Cond.methodLink RX7 142 yX7_begins ∈ wA0 := sB751 _ List.mem_cons_self
theorem sB752 : ∀ w ∈ wB752, w ∈ wA0 := fun w h => sB751 w (List.mem_cons_of_mem _ h)
theorem mB752 : Cond.instanceMethod yX7_begins ∈ wA0 := sB752 _ List.mem_cons_self
theorem sB753 : ∀ w ∈ wB753, w ∈ wA0 := fun w h => sB752 w (List.mem_cons_of_mem _ h)
theorem mB753 : Cond.selects RX7 yX7_begins yX7_begins ∈ wA0 := sB753 _ List.mem_cons_self
theorem sB754 : ∀ w ∈ wB754, w ∈ wA0 := fun w h => sB753 w (List.mem_cons_of_mem _ h)
theorem mB754 : Cond.code yX7_begin cX7_begin 2 (some .int) ∈ wA0 := sB754 _ List.mem_cons_self
theorem sB755 : ∀ w ∈ wB755, w ∈ wA0 := fun w h => sB754 w (List.mem_cons_of_mem _ h)
theorem mB755 : Cond.methodLink RX7 145 yX7_whyNotRead ∈ wA0 := sB755 _ List.mem_cons_self
theorem sB756 : ∀ w ∈ wB756, w ∈ wA0 := fun w h => sB755 w (List.mem_cons_of_mem _ h)
theorem mB756 : Cond.instanceMethod yX7_whyNotRead ∈ wA0 := sB756 _ List.mem_cons_self
theorem sB757 : ∀ w ∈ wB757, w ∈ wA0 := fun w h => sB756 w (List.mem_cons_of_mem _ h)
theorem mB757 : Cond.selects RX7 yX7_whyNotRead yX7_whyNotRead ∈ wA0 := sB757 _ List.mem_cons_self
theorem sB758 : ∀ w ∈ wB758, w ∈ wA0 := fun w h => sB757 w (List.mem_cons_of_mem _ h)
theorem mB758 : Cond.methodLink RX7 148 yX7_reads ∈ wA0 := sB758 _ List.mem_cons_self
theorem sB759 : ∀ w ∈ wB759, w ∈ wA0 := fun w h => sB758 w (List.mem_cons_of_mem _ h)
theorem mB759 : Cond.instanceMethod yX7_reads ∈ wA0 := sB759 _ List.mem_cons_self
theorem sB760 : ∀ w ∈ wB760, w ∈ wA0 := fun w h => sB759 w (List.mem_cons_of_mem _ h)
theorem mB760 : Cond.selects RX7 yX7_reads yX7_reads ∈ wA0 := sB760 _ List.mem_cons_self
theorem sB761 : ∀ w ∈ wB761, w ∈ wA0 := fun w h => sB760 w (List.mem_cons_of_mem _ h)
theorem mB761 : Cond.code yX7_read cX7_read 3 (some .int) ∈ wA0 := sB761 _ List.mem_cons_self
theorem sB762 : ∀ w ∈ wB762, w ∈ wA0 := fun w h => sB761 w (List.mem_cons_of_mem _ h)
theorem mB762 : Cond.methodLink RX7 151 yX7_whyNotWrite ∈ wA0 := sB762 _ List.mem_cons_self
theorem sB763 : ∀ w ∈ wB763, w ∈ wA0 := fun w h => sB762 w (List.mem_cons_of_mem _ h)
theorem mB763 : Cond.instanceMethod yX7_whyNotWrite ∈ wA0 := sB763 _ List.mem_cons_self
theorem sB764 : ∀ w ∈ wB764, w ∈ wA0 := fun w h => sB763 w (List.mem_cons_of_mem _ h)
theorem mB764 : Cond.selects RX7 yX7_whyNotWrite yX7_whyNotWrite ∈ wA0 := sB764 _ List.mem_cons_self
theorem sB765 : ∀ w ∈ wB765, w ∈ wA0 := fun w h => sB764 w (List.mem_cons_of_mem _ h)
theorem mB765 : Cond.methodLink RX7 155 yX7_writes ∈ wA0 := sB765 _ List.mem_cons_self
theorem sB766 : ∀ w ∈ wB766, w ∈ wA0 := fun w h => sB765 w (List.mem_cons_of_mem _ h)
theorem mB766 : Cond.instanceMethod yX7_writes ∈ wA0 := sB766 _ List.mem_cons_self
theorem sB767 : ∀ w ∈ wB767, w ∈ wA0 := fun w h => sB766 w (List.mem_cons_of_mem _ h)
theorem mB767 : Cond.selects RX7 yX7_writes yX7_writes ∈ wA0 := sB767 _ List.mem_cons_self
theorem sB768 : ∀ w ∈ wB768, w ∈ wA0 := fun w h => sB767 w (List.mem_cons_of_mem _ h)
theorem mB768 : Cond.code yX7_write cX7_write 4 (some .int) ∈ wA0 := sB768 _ List.mem_cons_self
theorem sB769 : ∀ w ∈ wB769, w ∈ wA0 := fun w h => sB768 w (List.mem_cons_of_mem _ h)
theorem mB769 : Cond.methodLink RX7 158 yX7_outcome ∈ wA0 := sB769 _ List.mem_cons_self
theorem sB770 : ∀ w ∈ wB770, w ∈ wA0 := fun w h => sB769 w (List.mem_cons_of_mem _ h)
theorem mB770 : Cond.instanceMethod yX7_outcome ∈ wA0 := sB770 _ List.mem_cons_self
theorem sB771 : ∀ w ∈ wB771, w ∈ wA0 := fun w h => sB770 w (List.mem_cons_of_mem _ h)
theorem mB771 : Cond.selects RX7 yX7_outcome yX7_outcome ∈ wA0 := sB771 _ List.mem_cons_self
theorem sB772 : ∀ w ∈ wB772, w ∈ wA0 := fun w h => sB771 w (List.mem_cons_of_mem _ h)
theorem mB772 : Cond.methodLink RX7 161 yX7_requests ∈ wA0 := sB772 _ List.mem_cons_self
theorem sB773 : ∀ w ∈ wB773, w ∈ wA0 := fun w h => sB772 w (List.mem_cons_of_mem _ h)
theorem mB773 : Cond.instanceMethod yX7_requests ∈ wA0 := sB773 _ List.mem_cons_self
theorem sB774 : ∀ w ∈ wB774, w ∈ wA0 := fun w h => sB773 w (List.mem_cons_of_mem _ h)
theorem mB774 : Cond.selects RX7 yX7_requests yX7_requests ∈ wA0 := sB774 _ List.mem_cons_self
theorem sB775 : ∀ w ∈ wB775, w ∈ wA0 := fun w h => sB774 w (List.mem_cons_of_mem _ h)
theorem mB775 : Cond.code yX7_commit cX7_commit 3 (some .int) ∈ wA0 := sB775 _ List.mem_cons_self
theorem sB776 : ∀ w ∈ wB776, w ∈ wA0 := fun w h => sB775 w (List.mem_cons_of_mem _ h)
theorem mB776 : Cond.code yX7_abort cX7_abort 2 (some .int) ∈ wA0 := sB776 _ List.mem_cons_self
theorem sB777 : ∀ w ∈ wB777, w ∈ wA0 := fun w h => sB776 w (List.mem_cons_of_mem _ h)
theorem mB777 : Cond.methodLink RX7 164 yX7_whyNotAdvance ∈ wA0 := sB777 _ List.mem_cons_self
theorem sB778 : ∀ w ∈ wB778, w ∈ wA0 := fun w h => sB777 w (List.mem_cons_of_mem _ h)
theorem mB778 : Cond.instanceMethod yX7_whyNotAdvance ∈ wA0 := sB778 _ List.mem_cons_self
theorem sB779 : ∀ w ∈ wB779, w ∈ wA0 := fun w h => sB778 w (List.mem_cons_of_mem _ h)
theorem mB779 : Cond.selects RX7 yX7_whyNotAdvance yX7_whyNotAdvance ∈ wA0 := sB779 _ List.mem_cons_self
theorem sB780 : ∀ w ∈ wB780, w ∈ wA0 := fun w h => sB779 w (List.mem_cons_of_mem _ h)
theorem mB780 : Cond.methodLink RX7 167 yX7_advances ∈ wA0 := sB780 _ List.mem_cons_self
theorem sB781 : ∀ w ∈ wB781, w ∈ wA0 := fun w h => sB780 w (List.mem_cons_of_mem _ h)
theorem mB781 : Cond.instanceMethod yX7_advances ∈ wA0 := sB781 _ List.mem_cons_self
theorem sB782 : ∀ w ∈ wB782, w ∈ wA0 := fun w h => sB781 w (List.mem_cons_of_mem _ h)
theorem mB782 : Cond.selects RX7 yX7_advances yX7_advances ∈ wA0 := sB782 _ List.mem_cons_self
theorem sB783 : ∀ w ∈ wB783, w ∈ wA0 := fun w h => sB782 w (List.mem_cons_of_mem _ h)
theorem mB783 : Cond.code yX7_advance cX7_advance 2 (some .int) ∈ wA0 := sB783 _ List.mem_cons_self
theorem sB784 : ∀ w ∈ wB784, w ∈ wA0 := fun w h => sB783 w (List.mem_cons_of_mem _ h)
theorem mB784 : Cond.methodLink RX7 170 yX7_whyNotSynchronize ∈ wA0 := sB784 _ List.mem_cons_self
theorem sB785 : ∀ w ∈ wB785, w ∈ wA0 := fun w h => sB784 w (List.mem_cons_of_mem _ h)
theorem mB785 : Cond.instanceMethod yX7_whyNotSynchronize ∈ wA0 := sB785 _ List.mem_cons_self
theorem sB786 : ∀ w ∈ wB786, w ∈ wA0 := fun w h => sB785 w (List.mem_cons_of_mem _ h)
theorem mB786 : Cond.selects RX7 yX7_whyNotSynchronize yX7_whyNotSynchronize ∈ wA0 := sB786 _ List.mem_cons_self
theorem sB787 : ∀ w ∈ wB787, w ∈ wA0 := fun w h => sB786 w (List.mem_cons_of_mem _ h)
theorem mB787 : Cond.methodLink RX7 173 yX7_synchronizes ∈ wA0 := sB787 _ List.mem_cons_self
theorem sB788 : ∀ w ∈ wB788, w ∈ wA0 := fun w h => sB787 w (List.mem_cons_of_mem _ h)
theorem mB788 : Cond.instanceMethod yX7_synchronizes ∈ wA0 := sB788 _ List.mem_cons_self
theorem sB789 : ∀ w ∈ wB789, w ∈ wA0 := fun w h => sB788 w (List.mem_cons_of_mem _ h)
theorem mB789 : Cond.selects RX7 yX7_synchronizes yX7_synchronizes ∈ wA0 := sB789 _ List.mem_cons_self
theorem sB790 : ∀ w ∈ wB790, w ∈ wA0 := fun w h => sB789 w (List.mem_cons_of_mem _ h)
theorem mB790 : Cond.code yX7_synchronize cX7_synchronize 3 (some .int) ∈ wA0 := sB790 _ List.mem_cons_self
theorem sB791 : ∀ w ∈ wB791, w ∈ wA0 := fun w h => sB790 w (List.mem_cons_of_mem _ h)
theorem mB791 : Cond.code yX7_setDrift cX7_setDrift 4 (some .int) ∈ wA0 := sB791 _ List.mem_cons_self
theorem sB792 : ∀ w ∈ wB792, w ∈ wA0 := fun w h => sB791 w (List.mem_cons_of_mem _ h)
theorem mB792 : Cond.code yX7_setUncertainty cX7_setUncertainty 5 (some .int) ∈ wA0 := sB792 _ List.mem_cons_self
theorem sB793 : ∀ w ∈ wB793, w ∈ wA0 := fun w h => sB792 w (List.mem_cons_of_mem _ h)
theorem mB793 : Cond.code yX7_safe cX7_safe 5 (some .int) ∈ wA0 := sB793 _ List.mem_cons_self
theorem sB794 : ∀ w ∈ wB794, w ∈ wA0 := fun w h => sB793 w (List.mem_cons_of_mem _ h)
theorem mB794 : Cond.methodLink RX7 176 yX7_safe ∈ wA0 := sB794 _ List.mem_cons_self
theorem sB795 : ∀ w ∈ wB795, w ∈ wA0 := fun w h => sB794 w (List.mem_cons_of_mem _ h)
theorem mB795 : Cond.instanceMethod yX7_safe ∈ wA0 := sB795 _ List.mem_cons_self
theorem sB796 : ∀ w ∈ wB796, w ∈ wA0 := fun w h => sB795 w (List.mem_cons_of_mem _ h)
theorem mB796 : Cond.selects RX7 yX7_safe yX7_safe ∈ wA0 := sB796 _ List.mem_cons_self
theorem sB797 : ∀ w ∈ wB797, w ∈ wA0 := fun w h => sB796 w (List.mem_cons_of_mem _ h)
theorem mB797 : Cond.code yX7_safeNow cX7_safeNow 3 (some .int) ∈ wA0 := sB797 _ List.mem_cons_self
theorem sB798 : ∀ w ∈ wB798, w ∈ wA0 := fun w h => sB797 w (List.mem_cons_of_mem _ h)
theorem mB798 : Cond.methodLink RX7 179 yX7_safeNow ∈ wA0 := sB798 _ List.mem_cons_self
theorem sB799 : ∀ w ∈ wB799, w ∈ wA0 := fun w h => sB798 w (List.mem_cons_of_mem _ h)
theorem mB799 : Cond.instanceMethod yX7_safeNow ∈ wA0 := sB799 _ List.mem_cons_self
theorem sB800 : ∀ w ∈ wB800, w ∈ wA0 := fun w h => sB799 w (List.mem_cons_of_mem _ h)
theorem mB800 : Cond.selects RX7 yX7_safeNow yX7_safeNow ∈ wA0 := sB800 _ List.mem_cons_self
theorem sB801 : ∀ w ∈ wB801, w ∈ wA0 := fun w h => sB800 w (List.mem_cons_of_mem _ h)
theorem mB801 : Cond.code yX7_snapshotRead cX7_snapshotRead 3 (some .int) ∈ wA0 := sB801 _ List.mem_cons_self
theorem sB802 : ∀ w ∈ wB802, w ∈ wA0 := fun w h => sB801 w (List.mem_cons_of_mem _ h)
theorem mB802 : Cond.code yX7_appendText cX7_appendText 2 (some .int) ∈ wA0 := sB802 _ List.mem_cons_self
theorem sB803 : ∀ w ∈ wB803, w ∈ wA0 := fun w h => sB802 w (List.mem_cons_of_mem _ h)
theorem mB803 : Cond.fieldLink RX7 183 "CommitWaitStoreModel" "length" "I" ∈ wA0 := sB803 _ List.mem_cons_self
theorem sB804 : ∀ w ∈ wB804, w ∈ wA0 := fun w h => sB803 w (List.mem_cons_of_mem _ h)
theorem mB804 : Cond.code yX7_clearText cX7_clearText 2 (some .int) ∈ wA0 := sB804 _ List.mem_cons_self
theorem sB805 : ∀ w ∈ wB805, w ∈ wA0 := fun w h => sB804 w (List.mem_cons_of_mem _ h)
theorem mB805 : Cond.code yX7_sign cX7_sign 2 (some .int) ∈ wA0 := sB805 _ List.mem_cons_self
theorem sB806 : ∀ w ∈ wB806, w ∈ wA0 := fun w h => sB805 w (List.mem_cons_of_mem _ h)
theorem mB806 : Cond.code yX7_digit cX7_digit 2 (some .int) ∈ wA0 := sB806 _ List.mem_cons_self
theorem sB807 : ∀ w ∈ wB807, w ∈ wA0 := fun w h => sB806 w (List.mem_cons_of_mem _ h)
theorem mB807 : Cond.methodLink RX7 186 yX7_sign ∈ wA0 := sB807 _ List.mem_cons_self
theorem sB808 : ∀ w ∈ wB808, w ∈ wA0 := fun w h => sB807 w (List.mem_cons_of_mem _ h)
theorem mB808 : Cond.instanceMethod yX7_sign ∈ wA0 := sB808 _ List.mem_cons_self
theorem sB809 : ∀ w ∈ wB809, w ∈ wA0 := fun w h => sB808 w (List.mem_cons_of_mem _ h)
theorem mB809 : Cond.selects RX7 yX7_sign yX7_sign ∈ wA0 := sB809 _ List.mem_cons_self
theorem sB810 : ∀ w ∈ wB810, w ∈ wA0 := fun w h => sB809 w (List.mem_cons_of_mem _ h)
theorem mB810 : Cond.code yX7_numberEnd cX7_numberEnd 6 (some .int) ∈ wA0 := sB810 _ List.mem_cons_self
theorem sB811 : ∀ w ∈ wB811, w ∈ wA0 := fun w h => sB810 w (List.mem_cons_of_mem _ h)
theorem mB811 : Cond.methodLink RX7 189 yX7_digit ∈ wA0 := sB811 _ List.mem_cons_self
theorem sB812 : ∀ w ∈ wB812, w ∈ wA0 := fun w h => sB811 w (List.mem_cons_of_mem _ h)
theorem mB812 : Cond.instanceMethod yX7_digit ∈ wA0 := sB812 _ List.mem_cons_self
theorem sB813 : ∀ w ∈ wB813, w ∈ wA0 := fun w h => sB812 w (List.mem_cons_of_mem _ h)
theorem mB813 : Cond.selects RX7 yX7_digit yX7_digit ∈ wA0 := sB813 _ List.mem_cons_self
theorem sB814 : ∀ w ∈ wB814, w ∈ wA0 := fun w h => sB813 w (List.mem_cons_of_mem _ h)
theorem mB814 : Cond.code yX7_behind cX7_behind 3 (some .int) ∈ wA0 := sB814 _ List.mem_cons_self
theorem sB815 : ∀ w ∈ wB815, w ∈ wA0 := fun w h => sB814 w (List.mem_cons_of_mem _ h)
theorem mB815 : Cond.code yX7_numberBehind cX7_numberBehind 3 (some .int) ∈ wA0 := sB815 _ List.mem_cons_self
theorem sB816 : ∀ w ∈ wB816, w ∈ wA0 := fun w h => sB815 w (List.mem_cons_of_mem _ h)
theorem mB816 : Cond.methodLink RX7 192 yX7_behind ∈ wA0 := sB816 _ List.mem_cons_self
theorem sB817 : ∀ w ∈ wB817, w ∈ wA0 := fun w h => sB816 w (List.mem_cons_of_mem _ h)
theorem mB817 : Cond.instanceMethod yX7_behind ∈ wA0 := sB817 _ List.mem_cons_self
theorem sB818 : ∀ w ∈ wB818, w ∈ wA0 := fun w h => sB817 w (List.mem_cons_of_mem _ h)
theorem mB818 : Cond.selects RX7 yX7_behind yX7_behind ∈ wA0 := sB818 _ List.mem_cons_self
theorem sB819 : ∀ w ∈ wB819, w ∈ wA0 := fun w h => sB818 w (List.mem_cons_of_mem _ h)
theorem mB819 : Cond.methodLink RX7 195 yX7_numberEnd ∈ wA0 := sB819 _ List.mem_cons_self
theorem sB820 : ∀ w ∈ wB820, w ∈ wA0 := fun w h => sB819 w (List.mem_cons_of_mem _ h)
theorem mB820 : Cond.instanceMethod yX7_numberEnd ∈ wA0 := sB820 _ List.mem_cons_self
theorem sB821 : ∀ w ∈ wB821, w ∈ wA0 := fun w h => sB820 w (List.mem_cons_of_mem _ h)
theorem mB821 : Cond.selects RX7 yX7_numberEnd yX7_numberEnd ∈ wA0 := sB821 _ List.mem_cons_self
theorem sB822 : ∀ w ∈ wB822, w ∈ wA0 := fun w h => sB821 w (List.mem_cons_of_mem _ h)
theorem mB822 : Cond.code yX7_offsetEnd cX7_offsetEnd 4 (some .int) ∈ wA0 := sB822 _ List.mem_cons_self
theorem sB823 : ∀ w ∈ wB823, w ∈ wA0 := fun w h => sB822 w (List.mem_cons_of_mem _ h)
theorem mB823 : Cond.methodLink RX7 198 yX7_numberBehind ∈ wA0 := sB823 _ List.mem_cons_self
theorem sB824 : ∀ w ∈ wB824, w ∈ wA0 := fun w h => sB823 w (List.mem_cons_of_mem _ h)
theorem mB824 : Cond.instanceMethod yX7_numberBehind ∈ wA0 := sB824 _ List.mem_cons_self
theorem sB825 : ∀ w ∈ wB825, w ∈ wA0 := fun w h => sB824 w (List.mem_cons_of_mem _ h)
theorem mB825 : Cond.selects RX7 yX7_numberBehind yX7_numberBehind ∈ wA0 := sB825 _ List.mem_cons_self
theorem sB826 : ∀ w ∈ wB826, w ∈ wA0 := fun w h => sB825 w (List.mem_cons_of_mem _ h)
theorem mB826 : Cond.methodLink RX7 201 yX7_offsetEnd ∈ wA0 := sB826 _ List.mem_cons_self
theorem sB827 : ∀ w ∈ wB827, w ∈ wA0 := fun w h => sB826 w (List.mem_cons_of_mem _ h)
theorem mB827 : Cond.instanceMethod yX7_offsetEnd ∈ wA0 := sB827 _ List.mem_cons_self
theorem sB828 : ∀ w ∈ wB828, w ∈ wA0 := fun w h => sB827 w (List.mem_cons_of_mem _ h)
theorem mB828 : Cond.selects RX7 yX7_offsetEnd yX7_offsetEnd ∈ wA0 := sB828 _ List.mem_cons_self
theorem sB829 : ∀ w ∈ wB829, w ∈ wA0 := fun w h => sB828 w (List.mem_cons_of_mem _ h)
theorem mB829 : Cond.code yX7_commandEnd cX7_commandEnd 3 (some .int) ∈ wA0 := sB829 _ List.mem_cons_self
theorem sB830 : ∀ w ∈ wB830, w ∈ wA0 := fun w h => sB829 w (List.mem_cons_of_mem _ h)
theorem mB830 : Cond.methodLink RX7 204 yX7_commandEnd ∈ wA0 := sB830 _ List.mem_cons_self
theorem sB831 : ∀ w ∈ wB831, w ∈ wA0 := fun w h => sB830 w (List.mem_cons_of_mem _ h)
theorem mB831 : Cond.instanceMethod yX7_commandEnd ∈ wA0 := sB831 _ List.mem_cons_self
theorem sB832 : ∀ w ∈ wB832, w ∈ wA0 := fun w h => sB831 w (List.mem_cons_of_mem _ h)
theorem mB832 : Cond.selects RX7 yX7_commandEnd yX7_commandEnd ∈ wA0 := sB832 _ List.mem_cons_self
theorem sB833 : ∀ w ∈ wB833, w ∈ wA0 := fun w h => sB832 w (List.mem_cons_of_mem _ h)
theorem mB833 : Cond.code yX7_error cX7_error 4 (some .int) ∈ wA0 := sB833 _ List.mem_cons_self
theorem sB834 : ∀ w ∈ wB834, w ∈ wA0 := fun w h => sB833 w (List.mem_cons_of_mem _ h)
theorem mB834 : Cond.methodLink RX7 207 yX7_error ∈ wA0 := sB834 _ List.mem_cons_self
theorem sB835 : ∀ w ∈ wB835, w ∈ wA0 := fun w h => sB834 w (List.mem_cons_of_mem _ h)
theorem mB835 : Cond.instanceMethod yX7_error ∈ wA0 := sB835 _ List.mem_cons_self
theorem sB836 : ∀ w ∈ wB836, w ∈ wA0 := fun w h => sB835 w (List.mem_cons_of_mem _ h)
theorem mB836 : Cond.selects RX7 yX7_error yX7_error ∈ wA0 := sB836 _ List.mem_cons_self
theorem sB837 : ∀ w ∈ wB837, w ∈ wA0 := fun w h => sB836 w (List.mem_cons_of_mem _ h)
theorem mB837 : Cond.code yX7_errorPosition cX7_errorPosition 1 (some .int) ∈ wA0 := sB837 _ List.mem_cons_self
theorem sB838 : ∀ w ∈ wB838, w ∈ wA0 := fun w h => sB837 w (List.mem_cons_of_mem _ h)
theorem mB838 : Cond.code yX7_numberAt cX7_numberAt 5 (some .int) ∈ wA0 := sB838 _ List.mem_cons_self
theorem sB839 : ∀ w ∈ wB839, w ∈ wA0 := fun w h => sB838 w (List.mem_cons_of_mem _ h)
theorem mB839 : Cond.code yX7_argument cX7_argument 3 (some .int) ∈ wA0 := sB839 _ List.mem_cons_self
theorem sB840 : ∀ w ∈ wB840, w ∈ wA0 := fun w h => sB839 w (List.mem_cons_of_mem _ h)
theorem mB840 : Cond.code yX7_ends cX7_ends 5 none ∈ wA0 := sB840 _ List.mem_cons_self
theorem sB841 : ∀ w ∈ wB841, w ∈ wA0 := fun w h => sB840 w (List.mem_cons_of_mem _ h)
theorem mB841 : Cond.methodLink RX7 210 yX7_numberAt ∈ wA0 := sB841 _ List.mem_cons_self
theorem sB842 : ∀ w ∈ wB842, w ∈ wA0 := fun w h => sB841 w (List.mem_cons_of_mem _ h)
theorem mB842 : Cond.instanceMethod yX7_numberAt ∈ wA0 := sB842 _ List.mem_cons_self
theorem sB843 : ∀ w ∈ wB843, w ∈ wA0 := fun w h => sB842 w (List.mem_cons_of_mem _ h)
theorem mB843 : Cond.selects RX7 yX7_numberAt yX7_numberAt ∈ wA0 := sB843 _ List.mem_cons_self
theorem sB844 : ∀ w ∈ wB844, w ∈ wA0 := fun w h => sB843 w (List.mem_cons_of_mem _ h)
theorem mB844 : Cond.methodLink RX7 213 yX7_argument ∈ wA0 := sB844 _ List.mem_cons_self
theorem sB845 : ∀ w ∈ wB845, w ∈ wA0 := fun w h => sB844 w (List.mem_cons_of_mem _ h)
theorem mB845 : Cond.instanceMethod yX7_argument ∈ wA0 := sB845 _ List.mem_cons_self
theorem sB846 : ∀ w ∈ wB846, w ∈ wA0 := fun w h => sB845 w (List.mem_cons_of_mem _ h)
theorem mB846 : Cond.selects RX7 yX7_argument yX7_argument ∈ wA0 := sB846 _ List.mem_cons_self
theorem sB847 : ∀ w ∈ wB847, w ∈ wA0 := fun w h => sB846 w (List.mem_cons_of_mem _ h)
theorem mB847 : Cond.methodLink RX7 216 yX7_ends ∈ wA0 := sB847 _ List.mem_cons_self
theorem sB848 : ∀ w ∈ wB848, w ∈ wA0 := fun w h => sB847 w (List.mem_cons_of_mem _ h)
theorem mB848 : Cond.instanceMethod yX7_ends ∈ wA0 := sB848 _ List.mem_cons_self
theorem sB849 : ∀ w ∈ wB849, w ∈ wA0 := fun w h => sB848 w (List.mem_cons_of_mem _ h)
theorem mB849 : Cond.selects RX7 yX7_ends yX7_ends ∈ wA0 := sB849 _ List.mem_cons_self
theorem sB850 : ∀ w ∈ wB850, w ∈ wA0 := fun w h => sB849 w (List.mem_cons_of_mem _ h)
theorem mB850 : Cond.code yX7_executes cX7_executes 7 (some .boolean) ∈ wA0 := sB850 _ List.mem_cons_self
theorem sB851 : ∀ w ∈ wB851, w ∈ wA0 := fun w h => sB850 w (List.mem_cons_of_mem _ h)
theorem mB851 : Cond.methodLink RX7 220 yX7_executes ∈ wA0 := sB851 _ List.mem_cons_self
theorem sB852 : ∀ w ∈ wB852, w ∈ wA0 := fun w h => sB851 w (List.mem_cons_of_mem _ h)
theorem mB852 : Cond.instanceMethod yX7_executes ∈ wA0 := sB852 _ List.mem_cons_self
theorem sB853 : ∀ w ∈ wB853, w ∈ wA0 := fun w h => sB852 w (List.mem_cons_of_mem _ h)
theorem mB853 : Cond.selects RX7 yX7_executes yX7_executes ∈ wA0 := sB853 _ List.mem_cons_self
theorem sB854 : ∀ w ∈ wB854, w ∈ wA0 := fun w h => sB853 w (List.mem_cons_of_mem _ h)
theorem mB854 : Cond.code yX7_runText cX7_runText 3 (some .int) ∈ wA0 := sB854 _ List.mem_cons_self
theorem sB855 : ∀ w ∈ wB855, w ∈ wA0 := fun w h => sB854 w (List.mem_cons_of_mem _ h)
theorem mB855 : Cond.code yX7_undo cX7_undo 2 (some .int) ∈ wA0 := sB855 _ List.mem_cons_self
theorem sB856 : ∀ w ∈ wB856, w ∈ wA0 := fun w h => sB855 w (List.mem_cons_of_mem _ h)
theorem mB856 : Cond.code yX7_save cX7_save 3 (some .int) ∈ wA0 := sB856 _ List.mem_cons_self
theorem sB857 : ∀ w ∈ wB857, w ∈ wA0 := fun w h => sB856 w (List.mem_cons_of_mem _ h)
theorem mB857 : Cond.code yX7_restore cX7_restore 3 (some .int) ∈ wA0 := sB857 _ List.mem_cons_self
theorem sB858 : ∀ w ∈ wB858, w ∈ wA0 := fun w h => sB857 w (List.mem_cons_of_mem _ h)
theorem mB858 : Cond.code yX7_trueTime cX7_trueTime 1 (some .int) ∈ wA0 := sB858 _ List.mem_cons_self
theorem sB859 : ∀ w ∈ wB859, w ∈ wA0 := fun w h => sB858 w (List.mem_cons_of_mem _ h)
theorem mB859 : Cond.code yX7_reading cX7_reading 2 (some .int) ∈ wA0 := sB859 _ List.mem_cons_self
theorem sB860 : ∀ w ∈ wB860, w ∈ wA0 := fun w h => sB859 w (List.mem_cons_of_mem _ h)
theorem mB860 : Cond.code yX7_earliest cX7_earliest 2 (some .int) ∈ wA0 := sB860 _ List.mem_cons_self
theorem sB861 : ∀ w ∈ wB861, w ∈ wA0 := fun w h => sB860 w (List.mem_cons_of_mem _ h)
theorem mB861 : Cond.code yX7_latest cX7_latest 2 (some .int) ∈ wA0 := sB861 _ List.mem_cons_self
theorem sB862 : ∀ w ∈ wB862, w ∈ wA0 := fun w h => sB861 w (List.mem_cons_of_mem _ h)
theorem mB862 : Cond.code yX7_isSound cX7_isSound 2 (some .boolean) ∈ wA0 := sB862 _ List.mem_cons_self
theorem sB863 : ∀ w ∈ wB863, w ∈ wA0 := fun w h => sB862 w (List.mem_cons_of_mem _ h)
theorem mB863 : Cond.code yX7_nextTimestamp cX7_nextTimestamp 2 (some .int) ∈ wA0 := sB863 _ List.mem_cons_self
theorem sB864 : ∀ w ∈ wB864, w ∈ wA0 := fun w h => sB863 w (List.mem_cons_of_mem _ h)
theorem mB864 : Cond.code yX7_transactions cX7_transactions 1 (some .int) ∈ wA0 := sB864 _ List.mem_cons_self
theorem sB865 : ∀ w ∈ wB865, w ∈ wA0 := fun w h => sB864 w (List.mem_cons_of_mem _ h)
theorem mB865 : Cond.code yX7_throwsFor cX7_throwsFor 2 (some .boolean) ∈ wA0 := sB865 _ List.mem_cons_self
theorem sB866 : ∀ w ∈ wB866, w ∈ wA0 := fun w h => sB865 w (List.mem_cons_of_mem _ h)
theorem mB866 : Cond.code yX7_isStamped cX7_isStamped 2 (some .boolean) ∈ wA0 := sB866 _ List.mem_cons_self
theorem sB867 : ∀ w ∈ wB867, w ∈ wA0 := fun w h => sB866 w (List.mem_cons_of_mem _ h)
theorem mB867 : Cond.code yX7_state cX7_state 2 (some .int) ∈ wA0 := sB867 _ List.mem_cons_self
theorem sB868 : ∀ w ∈ wB868, w ∈ wA0 := fun w h => sB867 w (List.mem_cons_of_mem _ h)
theorem mB868 : Cond.methodLink RX7 223 yX7_throwsFor ∈ wA0 := sB868 _ List.mem_cons_self
theorem sB869 : ∀ w ∈ wB869, w ∈ wA0 := fun w h => sB868 w (List.mem_cons_of_mem _ h)
theorem mB869 : Cond.instanceMethod yX7_throwsFor ∈ wA0 := sB869 _ List.mem_cons_self
theorem sB870 : ∀ w ∈ wB870, w ∈ wA0 := fun w h => sB869 w (List.mem_cons_of_mem _ h)
theorem mB870 : Cond.selects RX7 yX7_throwsFor yX7_throwsFor ∈ wA0 := sB870 _ List.mem_cons_self
theorem sB871 : ∀ w ∈ wB871, w ∈ wA0 := fun w h => sB870 w (List.mem_cons_of_mem _ h)
theorem mB871 : Cond.methodLink RX7 226 yX7_isStamped ∈ wA0 := sB871 _ List.mem_cons_self
theorem sB872 : ∀ w ∈ wB872, w ∈ wA0 := fun w h => sB871 w (List.mem_cons_of_mem _ h)
theorem mB872 : Cond.instanceMethod yX7_isStamped ∈ wA0 := sB872 _ List.mem_cons_self
theorem sB873 : ∀ w ∈ wB873, w ∈ wA0 := fun w h => sB872 w (List.mem_cons_of_mem _ h)
theorem mB873 : Cond.selects RX7 yX7_isStamped yX7_isStamped ∈ wA0 := sB873 _ List.mem_cons_self
theorem sB874 : ∀ w ∈ wB874, w ∈ wA0 := fun w h => sB873 w (List.mem_cons_of_mem _ h)
theorem mB874 : Cond.code yX7_timestamp cX7_timestamp 2 (some .int) ∈ wA0 := sB874 _ List.mem_cons_self
theorem sB875 : ∀ w ∈ wB875, w ∈ wA0 := fun w h => sB874 w (List.mem_cons_of_mem _ h)
theorem mB875 : Cond.code yX7_requestTime cX7_requestTime 2 (some .int) ∈ wA0 := sB875 _ List.mem_cons_self
theorem sB876 : ∀ w ∈ wB876, w ∈ wA0 := fun w h => sB875 w (List.mem_cons_of_mem _ h)
theorem mB876 : Cond.code yX7_commitTime cX7_commitTime 2 (some .int) ∈ wA0 := sB876 _ List.mem_cons_self
theorem sB877 : ∀ w ∈ wB877, w ∈ wA0 := fun w h => sB876 w (List.mem_cons_of_mem _ h)
theorem mB877 : Cond.code yX7_bufferedValue cX7_bufferedValue 4 (some .int) ∈ wA0 := sB877 _ List.mem_cons_self
theorem sB878 : ∀ w ∈ wB878, w ∈ wA0 := fun w h => sB877 w (List.mem_cons_of_mem _ h)
theorem mB878 : Cond.code yX7_recordedTimestamp cX7_recordedTimestamp 4 (some .int) ∈ wA0 := sB878 _ List.mem_cons_self
theorem sB879 : ∀ w ∈ wB879, w ∈ wA0 := fun w h => sB878 w (List.mem_cons_of_mem _ h)
theorem mB879 : Cond.code yX7_ifCommitted cX7_ifCommitted 2 (some .int) ∈ wA0 := sB879 _ List.mem_cons_self
theorem sB880 : ∀ w ∈ wB880, w ∈ wA0 := fun w h => sB879 w (List.mem_cons_of_mem _ h)
theorem mB880 : Cond.code yX7_ticksToCommit cX7_ticksToCommit 3 (some .int) ∈ wA0 := sB880 _ List.mem_cons_self
theorem sB881 : ∀ w ∈ wB881, w ∈ wA0 := fun w h => sB880 w (List.mem_cons_of_mem _ h)
theorem mB881 : Cond.code yX7_versions cX7_versions 4 (some .int) ∈ wA0 := sB881 _ List.mem_cons_self
theorem sB882 : ∀ w ∈ wB882, w ∈ wA0 := fun w h => sB881 w (List.mem_cons_of_mem _ h)
theorem mB882 : Cond.code yX7_stampAt cX7_stampAt 6 (some .int) ∈ wA0 := sB882 _ List.mem_cons_self
theorem sB883 : ∀ w ∈ wB883, w ∈ wA0 := fun w h => sB882 w (List.mem_cons_of_mem _ h)
theorem mB883 : Cond.methodLink RX7 229 yX7_stampAt ∈ wA0 := sB883 _ List.mem_cons_self
theorem sB884 : ∀ w ∈ wB884, w ∈ wA0 := fun w h => sB883 w (List.mem_cons_of_mem _ h)
theorem mB884 : Cond.instanceMethod yX7_stampAt ∈ wA0 := sB884 _ List.mem_cons_self
theorem sB885 : ∀ w ∈ wB885, w ∈ wA0 := fun w h => sB884 w (List.mem_cons_of_mem _ h)
theorem mB885 : Cond.selects RX7 yX7_stampAt yX7_stampAt ∈ wA0 := sB885 _ List.mem_cons_self
theorem sB886 : ∀ w ∈ wB886, w ∈ wA0 := fun w h => sB885 w (List.mem_cons_of_mem _ h)
theorem mB886 : Cond.code yX7_versionTimestamp cX7_versionTimestamp 4 (some .int) ∈ wA0 := sB886 _ List.mem_cons_self
theorem sB887 : ∀ w ∈ wB887, w ∈ wA0 := fun w h => sB886 w (List.mem_cons_of_mem _ h)
theorem mB887 : Cond.code yX7_throwsForValue cX7_throwsForValue 3 (some .boolean) ∈ wA0 := sB887 _ List.mem_cons_self
theorem sB888 : ∀ w ∈ wB888, w ∈ wA0 := fun w h => sB887 w (List.mem_cons_of_mem _ h)
theorem mB888 : Cond.methodLink RX7 232 yX7_throwsForValue ∈ wA0 := sB888 _ List.mem_cons_self
theorem sB889 : ∀ w ∈ wB889, w ∈ wA0 := fun w h => sB888 w (List.mem_cons_of_mem _ h)
theorem mB889 : Cond.instanceMethod yX7_throwsForValue ∈ wA0 := sB889 _ List.mem_cons_self
theorem sB890 : ∀ w ∈ wB890, w ∈ wA0 := fun w h => sB889 w (List.mem_cons_of_mem _ h)
theorem mB890 : Cond.selects RX7 yX7_throwsForValue yX7_throwsForValue ∈ wA0 := sB890 _ List.mem_cons_self
theorem sB891 : ∀ w ∈ wB891, w ∈ wA0 := fun w h => sB890 w (List.mem_cons_of_mem _ h)
theorem mB891 : Cond.code yX7_valueAt cX7_valueAt 3 (some .int) ∈ wA0 := sB891 _ List.mem_cons_self
theorem sB892 : ∀ w ∈ wB892, w ∈ wA0 := fun w h => sB891 w (List.mem_cons_of_mem _ h)
theorem mB892 : Cond.code yX7_nextApplied cX7_nextApplied 6 (some .int) ∈ wA0 := sB892 _ List.mem_cons_self
theorem sB893 : ∀ w ∈ wB893, w ∈ wA0 := fun w h => sB892 w (List.mem_cons_of_mem _ h)
theorem mB893 : Cond.methodLink RX7 235 yX7_nextApplied ∈ wA0 := sB893 _ List.mem_cons_self
theorem sB894 : ∀ w ∈ wB894, w ∈ wA0 := fun w h => sB893 w (List.mem_cons_of_mem _ h)
theorem mB894 : Cond.instanceMethod yX7_nextApplied ∈ wA0 := sB894 _ List.mem_cons_self
theorem sB895 : ∀ w ∈ wB895, w ∈ wA0 := fun w h => sB894 w (List.mem_cons_of_mem _ h)
theorem mB895 : Cond.selects RX7 yX7_nextApplied yX7_nextApplied ∈ wA0 := sB895 _ List.mem_cons_self
theorem sB896 : ∀ w ∈ wB896, w ∈ wA0 := fun w h => sB895 w (List.mem_cons_of_mem _ h)
theorem mB896 : Cond.code yX7_replayedValueAt cX7_replayedValueAt 5 (some .int) ∈ wA0 := sB896 _ List.mem_cons_self
theorem sB897 : ∀ w ∈ wB897, w ∈ wA0 := fun w h => sB896 w (List.mem_cons_of_mem _ h)
theorem mB897 : Cond.code yX7_waitingWriter cX7_waitingWriter 3 (some .int) ∈ wA0 := sB897 _ List.mem_cons_self
theorem sB898 : ∀ w ∈ wB898, w ∈ wA0 := fun w h => sB897 w (List.mem_cons_of_mem _ h)
theorem mB898 : Cond.code yX7_readerMark cX7_readerMark 2 (some .int) ∈ wA0 := sB898 _ List.mem_cons_self
theorem sB899 : ∀ w ∈ wB899, w ∈ wA0 := fun w h => sB898 w (List.mem_cons_of_mem _ h)
theorem mB899 : Cond.code yX7_safeTime cX7_safeTime 1 (some .int) ∈ wA0 := sB899 _ List.mem_cons_self
theorem sB900 : ∀ w ∈ wB900, w ∈ wA0 := fun w h => sB899 w (List.mem_cons_of_mem _ h)
theorem mB900 : Cond.code yX7_readFloor cX7_readFloor 1 (some .int) ∈ wA0 := sB900 _ List.mem_cons_self
theorem sB901 : ∀ w ∈ wB901, w ∈ wA0 := fun w h => sB900 w (List.mem_cons_of_mem _ h)
theorem mB901 : Cond.code yX7_ticksOfServers cX7_ticksOfServers 4 (some .int) ∈ wA0 := sB901 _ List.mem_cons_self
theorem sB902 : ∀ w ∈ wB902, w ∈ wA0 := fun w h => sB901 w (List.mem_cons_of_mem _ h)
theorem mB902 : Cond.code yX7_ticksOfWaiting cX7_ticksOfWaiting 5 (some .int) ∈ wA0 := sB902 _ List.mem_cons_self
theorem sB903 : ∀ w ∈ wB903, w ∈ wA0 := fun w h => sB902 w (List.mem_cons_of_mem _ h)
theorem mB903 : Cond.methodLink RX7 238 yX7_ticksOfWaiting ∈ wA0 := sB903 _ List.mem_cons_self
theorem sB904 : ∀ w ∈ wB904, w ∈ wA0 := fun w h => sB903 w (List.mem_cons_of_mem _ h)
theorem mB904 : Cond.instanceMethod yX7_ticksOfWaiting ∈ wA0 := sB904 _ List.mem_cons_self
theorem sB905 : ∀ w ∈ wB905, w ∈ wA0 := fun w h => sB904 w (List.mem_cons_of_mem _ h)
theorem mB905 : Cond.selects RX7 yX7_ticksOfWaiting yX7_ticksOfWaiting ∈ wA0 := sB905 _ List.mem_cons_self
theorem sB906 : ∀ w ∈ wB906, w ∈ wA0 := fun w h => sB905 w (List.mem_cons_of_mem _ h)
theorem mB906 : Cond.methodLink RX7 241 yX7_ticksOfServers ∈ wA0 := sB906 _ List.mem_cons_self
theorem sB907 : ∀ w ∈ wB907, w ∈ wA0 := fun w h => sB906 w (List.mem_cons_of_mem _ h)
theorem mB907 : Cond.instanceMethod yX7_ticksOfServers ∈ wA0 := sB907 _ List.mem_cons_self
theorem sB908 : ∀ w ∈ wB908, w ∈ wA0 := fun w h => sB907 w (List.mem_cons_of_mem _ h)
theorem mB908 : Cond.selects RX7 yX7_ticksOfServers yX7_ticksOfServers ∈ wA0 := sB908 _ List.mem_cons_self
theorem sB909 : ∀ w ∈ wB909, w ∈ wA0 := fun w h => sB908 w (List.mem_cons_of_mem _ h)
theorem mB909 : Cond.code yX7_ticksUntilSafe cX7_ticksUntilSafe 3 (some .int) ∈ wA0 := sB909 _ List.mem_cons_self
theorem sB910 : ∀ w ∈ wB910, w ∈ wA0 := fun w h => sB909 w (List.mem_cons_of_mem _ h)
theorem mB910 : Cond.code yX7_count cX7_count 4 (some .int) ∈ wA0 := sB910 _ List.mem_cons_self
theorem sB911 : ∀ w ∈ wB911, w ∈ wA0 := fun w h => sB910 w (List.mem_cons_of_mem _ h)
theorem mB911 : Cond.code yX7_countInState cX7_countInState 2 (some .int) ∈ wA0 := sB911 _ List.mem_cons_self
theorem sB912 : ∀ w ∈ wB912, w ∈ wA0 := fun w h => sB911 w (List.mem_cons_of_mem _ h)
theorem mB912 : Cond.methodLink RX7 244 yX7_count ∈ wA0 := sB912 _ List.mem_cons_self
theorem sB913 : ∀ w ∈ wB913, w ∈ wA0 := fun w h => sB912 w (List.mem_cons_of_mem _ h)
theorem mB913 : Cond.instanceMethod yX7_count ∈ wA0 := sB913 _ List.mem_cons_self
theorem sB914 : ∀ w ∈ wB914, w ∈ wA0 := fun w h => sB913 w (List.mem_cons_of_mem _ h)
theorem mB914 : Cond.selects RX7 yX7_count yX7_count ∈ wA0 := sB914 _ List.mem_cons_self
theorem sB915 : ∀ w ∈ wB915, w ∈ wA0 := fun w h => sB914 w (List.mem_cons_of_mem _ h)
theorem mB915 : Cond.code yX7_totalWait cX7_totalWait 3 (some .int) ∈ wA0 := sB915 _ List.mem_cons_self
theorem sB916 : ∀ w ∈ wB916, w ∈ wA0 := fun w h => sB915 w (List.mem_cons_of_mem _ h)
theorem mB916 : Cond.code yX7_unsoundUses cX7_unsoundUses 1 (some .int) ∈ wA0 := sB916 _ List.mem_cons_self
theorem sB917 : ∀ w ∈ wB917, w ∈ wA0 := fun w h => sB916 w (List.mem_cons_of_mem _ h)
theorem mB917 : Cond.code yX7_isInverted cX7_isInverted 4 (some .boolean) ∈ wA0 := sB917 _ List.mem_cons_self
theorem sB918 : ∀ w ∈ wB918, w ∈ wA0 := fun w h => sB917 w (List.mem_cons_of_mem _ h)
theorem mB918 : Cond.code yX7_inversions cX7_inversions 4 (some .int) ∈ wA0 := sB918 _ List.mem_cons_self
theorem sB919 : ∀ w ∈ wB919, w ∈ wA0 := fun w h => sB918 w (List.mem_cons_of_mem _ h)
theorem mB919 : Cond.methodLink RX7 247 yX7_isInverted ∈ wA0 := sB919 _ List.mem_cons_self
theorem sB920 : ∀ w ∈ wB920, w ∈ wA0 := fun w h => sB919 w (List.mem_cons_of_mem _ h)
theorem mB920 : Cond.instanceMethod yX7_isInverted ∈ wA0 := sB920 _ List.mem_cons_self
theorem sB921 : ∀ w ∈ wB921, w ∈ wA0 := fun w h => sB920 w (List.mem_cons_of_mem _ h)
theorem mB921 : Cond.selects RX7 yX7_isInverted yX7_isInverted ∈ wA0 := sB921 _ List.mem_cons_self
theorem sB922 : ∀ w ∈ wB922, w ∈ wA0 := fun w h => sB921 w (List.mem_cons_of_mem _ h)
theorem mB922 : Cond.code yX7_savedStates cX7_savedStates 1 (some .int) ∈ wA0 := sB922 _ List.mem_cons_self
theorem sB923 : ∀ w ∈ wB923, w ∈ wA0 := fun w h => sB922 w (List.mem_cons_of_mem _ h)
theorem mB923 : Cond.code yX7_textLength cX7_textLength 1 (some .int) ∈ wA0 := sB923 _ List.mem_cons_self
theorem sB924 : ∀ w ∈ wB924, w ∈ wA0 := fun w h => sB923 w (List.mem_cons_of_mem _ h)
theorem mB924 : Cond.code yJ9_max_7cf53 cJ9_max_7cf53 2 (some .int) ∈ wA0 := sB924 _ List.mem_cons_self
theorem sB925 : ∀ w ∈ wB925, w ∈ wA0 := fun w h => sB924 w (List.mem_cons_of_mem _ h)
theorem mB925 : Cond.code yJ9_min_7cf53 cJ9_min_7cf53 2 (some .int) ∈ wA0 := sB925 _ List.mem_cons_self
theorem sB926 : ∀ w ∈ wB926, w ∈ wA0 := fun w h => sB925 w (List.mem_cons_of_mem _ h)
theorem mB926 : Cond.classLink RL 13 "java/lang/IndexOutOfBoundsException" ∈ wA0 := sB926 _ List.mem_cons_self
theorem sB927 : ∀ w ∈ wB927, w ∈ wA0 := fun w h => sB926 w (List.mem_cons_of_mem _ h)
theorem mB927 : Cond.classLink RL 15 "java/lang/IllegalStateException" ∈ wA0 := sB927 _ List.mem_cons_self
theorem sB928 : ∀ w ∈ wB928, w ∈ wA0 := fun w h => sB927 w (List.mem_cons_of_mem _ h)
theorem mB928 : Cond.methodLink RL 7 yX6_begin ∈ wA0 := sB928 _ List.mem_cons_self
theorem sB929 : ∀ w ∈ wB929, w ∈ wA0 := fun w h => sB928 w (List.mem_cons_of_mem _ h)
theorem mB929 : Cond.instanceMethod yX6_begin ∈ wA0 := sB929 _ List.mem_cons_self
theorem sB930 : ∀ w ∈ wB930, w ∈ wA0 := fun w h => sB929 w (List.mem_cons_of_mem _ h)
theorem mB930 : Cond.selects RX6 yX6_begin yX6_begin ∈ wA0 := sB930 _ List.mem_cons_self
theorem sB931 : ∀ w ∈ wB931, w ∈ wA0 := fun w h => sB930 w (List.mem_cons_of_mem _ h)
theorem mB931 : Cond.codeWith yL_begin cL_begin 4 (some .int) [(0, 9, 12, 13), (0, 9, 15, 15)] ∈ wA0 := sB931 _ List.mem_cons_self
theorem sB932 : ∀ w ∈ wB932, w ∈ wA0 := fun w h => sB931 w (List.mem_cons_of_mem _ h)
theorem mB932 : Cond.methodLink RL 17 yX6_read ∈ wA0 := sB932 _ List.mem_cons_self
theorem sB933 : ∀ w ∈ wB933, w ∈ wA0 := fun w h => sB932 w (List.mem_cons_of_mem _ h)
theorem mB933 : Cond.instanceMethod yX6_read ∈ wA0 := sB933 _ List.mem_cons_self
theorem sB934 : ∀ w ∈ wB934, w ∈ wA0 := fun w h => sB933 w (List.mem_cons_of_mem _ h)
theorem mB934 : Cond.selects RX6 yX6_read yX6_read ∈ wA0 := sB934 _ List.mem_cons_self
theorem sB935 : ∀ w ∈ wB935, w ∈ wA0 := fun w h => sB934 w (List.mem_cons_of_mem _ h)
theorem mB935 : Cond.codeWith yL_read cL_read 5 (some .int) [(0, 10, 13, 13), (0, 10, 17, 15)] ∈ wA0 := sB935 _ List.mem_cons_self
theorem sB936 : ∀ w ∈ wB936, w ∈ wA0 := fun w h => sB935 w (List.mem_cons_of_mem _ h)
theorem mB936 : Cond.classLink RL 25 "java/lang/IllegalArgumentException" ∈ wA0 := sB936 _ List.mem_cons_self
theorem sB937 : ∀ w ∈ wB937, w ∈ wA0 := fun w h => sB936 w (List.mem_cons_of_mem _ h)
theorem mB937 : Cond.methodLink RL 21 yX6_write ∈ wA0 := sB937 _ List.mem_cons_self
theorem sB938 : ∀ w ∈ wB938, w ∈ wA0 := fun w h => sB937 w (List.mem_cons_of_mem _ h)
theorem mB938 : Cond.instanceMethod yX6_write ∈ wA0 := sB938 _ List.mem_cons_self
theorem sB939 : ∀ w ∈ wB939, w ∈ wA0 := fun w h => sB938 w (List.mem_cons_of_mem _ h)
theorem mB939 : Cond.selects RX6 yX6_write yX6_write ∈ wA0 := sB939 _ List.mem_cons_self
theorem sB940 : ∀ w ∈ wB940, w ∈ wA0 := fun w h => sB939 w (List.mem_cons_of_mem _ h)
theorem mB940 : Cond.codeWith yL_write cL_write 6 (some .int) [(0, 12, 15, 13), (0, 12, 19, 25), (0, 12, 23, 15)] ∈ wA0 := sB940 _ List.mem_cons_self
theorem sB941 : ∀ w ∈ wB941, w ∈ wA0 := fun w h => sB940 w (List.mem_cons_of_mem _ h)
theorem mB941 : Cond.methodLink RL 27 yX6_commit ∈ wA0 := sB941 _ List.mem_cons_self
theorem sB942 : ∀ w ∈ wB942, w ∈ wA0 := fun w h => sB941 w (List.mem_cons_of_mem _ h)
theorem mB942 : Cond.instanceMethod yX6_commit ∈ wA0 := sB942 _ List.mem_cons_self
theorem sB943 : ∀ w ∈ wB943, w ∈ wA0 := fun w h => sB942 w (List.mem_cons_of_mem _ h)
theorem mB943 : Cond.selects RX6 yX6_commit yX6_commit ∈ wA0 := sB943 _ List.mem_cons_self
theorem sB944 : ∀ w ∈ wB944, w ∈ wA0 := fun w h => sB943 w (List.mem_cons_of_mem _ h)
theorem mB944 : Cond.codeWith yL_commit cL_commit 4 (some .int) [(0, 9, 12, 13), (0, 9, 15, 15)] ∈ wA0 := sB944 _ List.mem_cons_self
theorem sB945 : ∀ w ∈ wB945, w ∈ wA0 := fun w h => sB944 w (List.mem_cons_of_mem _ h)
theorem mB945 : Cond.methodLink RL 30 yX6_abort ∈ wA0 := sB945 _ List.mem_cons_self
theorem sB946 : ∀ w ∈ wB946, w ∈ wA0 := fun w h => sB945 w (List.mem_cons_of_mem _ h)
theorem mB946 : Cond.instanceMethod yX6_abort ∈ wA0 := sB946 _ List.mem_cons_self
theorem sB947 : ∀ w ∈ wB947, w ∈ wA0 := fun w h => sB946 w (List.mem_cons_of_mem _ h)
theorem mB947 : Cond.selects RX6 yX6_abort yX6_abort ∈ wA0 := sB947 _ List.mem_cons_self
theorem sB948 : ∀ w ∈ wB948, w ∈ wA0 := fun w h => sB947 w (List.mem_cons_of_mem _ h)
theorem mB948 : Cond.codeWith yL_abort cL_abort 4 (some .int) [(0, 9, 12, 13), (0, 9, 15, 15)] ∈ wA0 := sB948 _ List.mem_cons_self
theorem sB949 : ∀ w ∈ wB949, w ∈ wA0 := fun w h => sB948 w (List.mem_cons_of_mem _ h)
theorem mB949 : Cond.methodLink RL 33 yX6_advance ∈ wA0 := sB949 _ List.mem_cons_self
theorem sB950 : ∀ w ∈ wB950, w ∈ wA0 := fun w h => sB949 w (List.mem_cons_of_mem _ h)
theorem mB950 : Cond.instanceMethod yX6_advance ∈ wA0 := sB950 _ List.mem_cons_self
theorem sB951 : ∀ w ∈ wB951, w ∈ wA0 := fun w h => sB950 w (List.mem_cons_of_mem _ h)
theorem mB951 : Cond.selects RX6 yX6_advance yX6_advance ∈ wA0 := sB951 _ List.mem_cons_self
theorem sB952 : ∀ w ∈ wB952, w ∈ wA0 := fun w h => sB951 w (List.mem_cons_of_mem _ h)
theorem mB952 : Cond.codeWith yL_advance cL_advance 4 (some .int) [(0, 9, 12, 25), (0, 9, 15, 15)] ∈ wA0 := sB952 _ List.mem_cons_self
theorem sB953 : ∀ w ∈ wB953, w ∈ wA0 := fun w h => sB952 w (List.mem_cons_of_mem _ h)
theorem mB953 : Cond.methodLink RL 36 yX6_synchronize ∈ wA0 := sB953 _ List.mem_cons_self
theorem sB954 : ∀ w ∈ wB954, w ∈ wA0 := fun w h => sB953 w (List.mem_cons_of_mem _ h)
theorem mB954 : Cond.instanceMethod yX6_synchronize ∈ wA0 := sB954 _ List.mem_cons_self
theorem sB955 : ∀ w ∈ wB955, w ∈ wA0 := fun w h => sB954 w (List.mem_cons_of_mem _ h)
theorem mB955 : Cond.selects RX6 yX6_synchronize yX6_synchronize ∈ wA0 := sB955 _ List.mem_cons_self
theorem sB956 : ∀ w ∈ wB956, w ∈ wA0 := fun w h => sB955 w (List.mem_cons_of_mem _ h)
theorem mB956 : Cond.codeWith yL_synchronize cL_synchronize 5 (some .int) [(0, 10, 13, 13), (0, 10, 17, 25)] ∈ wA0 := sB956 _ List.mem_cons_self
theorem sB957 : ∀ w ∈ wB957, w ∈ wA0 := fun w h => sB956 w (List.mem_cons_of_mem _ h)
theorem mB957 : Cond.methodLink RL 39 yX6_setDrift ∈ wA0 := sB957 _ List.mem_cons_self
theorem sB958 : ∀ w ∈ wB958, w ∈ wA0 := fun w h => sB957 w (List.mem_cons_of_mem _ h)
theorem mB958 : Cond.instanceMethod yX6_setDrift ∈ wA0 := sB958 _ List.mem_cons_self
theorem sB959 : ∀ w ∈ wB959, w ∈ wA0 := fun w h => sB958 w (List.mem_cons_of_mem _ h)
theorem mB959 : Cond.selects RX6 yX6_setDrift yX6_setDrift ∈ wA0 := sB959 _ List.mem_cons_self
theorem sB960 : ∀ w ∈ wB960, w ∈ wA0 := fun w h => sB959 w (List.mem_cons_of_mem _ h)
theorem mB960 : Cond.codeWith yL_setDrift cL_setDrift 5 (some .int) [(0, 10, 13, 13), (0, 10, 17, 25)] ∈ wA0 := sB960 _ List.mem_cons_self
theorem sB961 : ∀ w ∈ wB961, w ∈ wA0 := fun w h => sB960 w (List.mem_cons_of_mem _ h)
theorem mB961 : Cond.methodLink RL 42 yX6_setUncertainty ∈ wA0 := sB961 _ List.mem_cons_self
theorem sB962 : ∀ w ∈ wB962, w ∈ wA0 := fun w h => sB961 w (List.mem_cons_of_mem _ h)
theorem mB962 : Cond.instanceMethod yX6_setUncertainty ∈ wA0 := sB962 _ List.mem_cons_self
theorem sB963 : ∀ w ∈ wB963, w ∈ wA0 := fun w h => sB962 w (List.mem_cons_of_mem _ h)
theorem mB963 : Cond.selects RX6 yX6_setUncertainty yX6_setUncertainty ∈ wA0 := sB963 _ List.mem_cons_self
theorem sB964 : ∀ w ∈ wB964, w ∈ wA0 := fun w h => sB963 w (List.mem_cons_of_mem _ h)
theorem mB964 : Cond.codeWith yL_setUncertainty cL_setUncertainty 6 (some .int) [(0, 12, 15, 13), (0, 12, 19, 25)] ∈ wA0 := sB964 _ List.mem_cons_self
theorem sB965 : ∀ w ∈ wB965, w ∈ wA0 := fun w h => sB964 w (List.mem_cons_of_mem _ h)
theorem mB965 : Cond.methodLink RL 45 yX6_snapshotRead ∈ wA0 := sB965 _ List.mem_cons_self
theorem sB966 : ∀ w ∈ wB966, w ∈ wA0 := fun w h => sB965 w (List.mem_cons_of_mem _ h)
theorem mB966 : Cond.instanceMethod yX6_snapshotRead ∈ wA0 := sB966 _ List.mem_cons_self
theorem sB967 : ∀ w ∈ wB967, w ∈ wA0 := fun w h => sB966 w (List.mem_cons_of_mem _ h)
theorem mB967 : Cond.selects RX6 yX6_snapshotRead yX6_snapshotRead ∈ wA0 := sB967 _ List.mem_cons_self
theorem sB968 : ∀ w ∈ wB968, w ∈ wA0 := fun w h => sB967 w (List.mem_cons_of_mem _ h)
theorem mB968 : Cond.codeWith yL_snapshotRead cL_snapshotRead 5 (some .int) [(0, 10, 13, 13), (0, 10, 17, 25), (0, 10, 21, 15)] ∈ wA0 := sB968 _ List.mem_cons_self
theorem sB969 : ∀ w ∈ wB969, w ∈ wA0 := fun w h => sB968 w (List.mem_cons_of_mem _ h)
theorem mB969 : Cond.methodLink RL 48 yX6_appendText ∈ wA0 := sB969 _ List.mem_cons_self
theorem sB970 : ∀ w ∈ wB970, w ∈ wA0 := fun w h => sB969 w (List.mem_cons_of_mem _ h)
theorem mB970 : Cond.instanceMethod yX6_appendText ∈ wA0 := sB970 _ List.mem_cons_self
theorem sB971 : ∀ w ∈ wB971, w ∈ wA0 := fun w h => sB970 w (List.mem_cons_of_mem _ h)
theorem mB971 : Cond.selects RX6 yX6_appendText yX6_appendText ∈ wA0 := sB971 _ List.mem_cons_self
theorem sB972 : ∀ w ∈ wB972, w ∈ wA0 := fun w h => sB971 w (List.mem_cons_of_mem _ h)
theorem mB972 : Cond.codeWith yL_appendText cL_appendText 4 (some .int) [(0, 9, 12, 25), (0, 9, 15, 15)] ∈ wA0 := sB972 _ List.mem_cons_self
theorem sB973 : ∀ w ∈ wB973, w ∈ wA0 := fun w h => sB972 w (List.mem_cons_of_mem _ h)
theorem mB973 : Cond.methodLink RL 51 yX6_runText ∈ wA0 := sB973 _ List.mem_cons_self
theorem sB974 : ∀ w ∈ wB974, w ∈ wA0 := fun w h => sB973 w (List.mem_cons_of_mem _ h)
theorem mB974 : Cond.instanceMethod yX6_runText ∈ wA0 := sB974 _ List.mem_cons_self
theorem sB975 : ∀ w ∈ wB975, w ∈ wA0 := fun w h => sB974 w (List.mem_cons_of_mem _ h)
theorem mB975 : Cond.selects RX6 yX6_runText yX6_runText ∈ wA0 := sB975 _ List.mem_cons_self
theorem sB976 : ∀ w ∈ wB976, w ∈ wA0 := fun w h => sB975 w (List.mem_cons_of_mem _ h)
theorem mB976 : Cond.codeWith yL_runText cL_runText 3 (some .int) [(0, 8, 11, 15)] ∈ wA0 := sB976 _ List.mem_cons_self
theorem sB977 : ∀ w ∈ wB977, w ∈ wA0 := fun w h => sB976 w (List.mem_cons_of_mem _ h)
theorem mB977 : Cond.methodLink RL 55 yX6_undo ∈ wA0 := sB977 _ List.mem_cons_self
theorem sB978 : ∀ w ∈ wB978, w ∈ wA0 := fun w h => sB977 w (List.mem_cons_of_mem _ h)
theorem mB978 : Cond.instanceMethod yX6_undo ∈ wA0 := sB978 _ List.mem_cons_self
theorem sB979 : ∀ w ∈ wB979, w ∈ wA0 := fun w h => sB978 w (List.mem_cons_of_mem _ h)
theorem mB979 : Cond.selects RX6 yX6_undo yX6_undo ∈ wA0 := sB979 _ List.mem_cons_self
theorem sB980 : ∀ w ∈ wB980, w ∈ wA0 := fun w h => sB979 w (List.mem_cons_of_mem _ h)
theorem mB980 : Cond.codeWith yL_undo cL_undo 3 (some .int) [(0, 8, 11, 15)] ∈ wA0 := sB980 _ List.mem_cons_self
theorem sB981 : ∀ w ∈ wB981, w ∈ wA0 := fun w h => sB980 w (List.mem_cons_of_mem _ h)
theorem mB981 : Cond.methodLink RL 58 yX6_save ∈ wA0 := sB981 _ List.mem_cons_self
theorem sB982 : ∀ w ∈ wB982, w ∈ wA0 := fun w h => sB981 w (List.mem_cons_of_mem _ h)
theorem mB982 : Cond.instanceMethod yX6_save ∈ wA0 := sB982 _ List.mem_cons_self
theorem sB983 : ∀ w ∈ wB983, w ∈ wA0 := fun w h => sB982 w (List.mem_cons_of_mem _ h)
theorem mB983 : Cond.selects RX6 yX6_save yX6_save ∈ wA0 := sB983 _ List.mem_cons_self
theorem sB984 : ∀ w ∈ wB984, w ∈ wA0 := fun w h => sB983 w (List.mem_cons_of_mem _ h)
theorem mB984 : Cond.codeWith yL_save cL_save 4 (some .int) [(0, 9, 12, 13)] ∈ wA0 := sB984 _ List.mem_cons_self
theorem sB985 : ∀ w ∈ wB985, w ∈ wA0 := fun w h => sB984 w (List.mem_cons_of_mem _ h)
theorem mB985 : Cond.methodLink RL 61 yX6_restore ∈ wA0 := sB985 _ List.mem_cons_self
theorem sB986 : ∀ w ∈ wB986, w ∈ wA0 := fun w h => sB985 w (List.mem_cons_of_mem _ h)
theorem mB986 : Cond.instanceMethod yX6_restore ∈ wA0 := sB986 _ List.mem_cons_self
theorem sB987 : ∀ w ∈ wB987, w ∈ wA0 := fun w h => sB986 w (List.mem_cons_of_mem _ h)
theorem mB987 : Cond.selects RX6 yX6_restore yX6_restore ∈ wA0 := sB987 _ List.mem_cons_self
theorem sB988 : ∀ w ∈ wB988, w ∈ wA0 := fun w h => sB987 w (List.mem_cons_of_mem _ h)
theorem mB988 : Cond.codeWith yL_restore cL_restore 4 (some .int) [(0, 9, 12, 13), (0, 9, 15, 15)] ∈ wA0 := sB988 _ List.mem_cons_self
theorem sB989 : ∀ w ∈ wB989, w ∈ wA0 := fun w h => sB988 w (List.mem_cons_of_mem _ h)
theorem mB989 : Cond.methodLink RL 64 yX6_reading ∈ wA0 := sB989 _ List.mem_cons_self
theorem sB990 : ∀ w ∈ wB990, w ∈ wA0 := fun w h => sB989 w (List.mem_cons_of_mem _ h)
theorem mB990 : Cond.instanceMethod yX6_reading ∈ wA0 := sB990 _ List.mem_cons_self
theorem sB991 : ∀ w ∈ wB991, w ∈ wA0 := fun w h => sB990 w (List.mem_cons_of_mem _ h)
theorem mB991 : Cond.selects RX6 yX6_reading yX6_reading ∈ wA0 := sB991 _ List.mem_cons_self
theorem sB992 : ∀ w ∈ wB992, w ∈ wA0 := fun w h => sB991 w (List.mem_cons_of_mem _ h)
theorem mB992 : Cond.codeWith yL_reading cL_reading 4 (some .int) [(0, 9, 12, 13)] ∈ wA0 := sB992 _ List.mem_cons_self
theorem sB993 : ∀ w ∈ wB993, w ∈ wA0 := fun w h => sB992 w (List.mem_cons_of_mem _ h)
theorem mB993 : Cond.methodLink RL 67 yX6_earliest ∈ wA0 := sB993 _ List.mem_cons_self
theorem sB994 : ∀ w ∈ wB994, w ∈ wA0 := fun w h => sB993 w (List.mem_cons_of_mem _ h)
theorem mB994 : Cond.instanceMethod yX6_earliest ∈ wA0 := sB994 _ List.mem_cons_self
theorem sB995 : ∀ w ∈ wB995, w ∈ wA0 := fun w h => sB994 w (List.mem_cons_of_mem _ h)
theorem mB995 : Cond.selects RX6 yX6_earliest yX6_earliest ∈ wA0 := sB995 _ List.mem_cons_self
theorem sB996 : ∀ w ∈ wB996, w ∈ wA0 := fun w h => sB995 w (List.mem_cons_of_mem _ h)
theorem mB996 : Cond.codeWith yL_earliest cL_earliest 4 (some .int) [(0, 9, 12, 13)] ∈ wA0 := sB996 _ List.mem_cons_self
theorem sB997 : ∀ w ∈ wB997, w ∈ wA0 := fun w h => sB996 w (List.mem_cons_of_mem _ h)
theorem mB997 : Cond.methodLink RL 70 yX6_latest ∈ wA0 := sB997 _ List.mem_cons_self
theorem sB998 : ∀ w ∈ wB998, w ∈ wA0 := fun w h => sB997 w (List.mem_cons_of_mem _ h)
theorem mB998 : Cond.instanceMethod yX6_latest ∈ wA0 := sB998 _ List.mem_cons_self
theorem sB999 : ∀ w ∈ wB999, w ∈ wA0 := fun w h => sB998 w (List.mem_cons_of_mem _ h)
theorem mB999 : Cond.selects RX6 yX6_latest yX6_latest ∈ wA0 := sB999 _ List.mem_cons_self
theorem sB1000 : ∀ w ∈ wB1000, w ∈ wA0 := fun w h => sB999 w (List.mem_cons_of_mem _ h)
theorem mB1000 : Cond.codeWith yL_latest cL_latest 4 (some .int) [(0, 9, 12, 13)] ∈ wA0 := sB1000 _ List.mem_cons_self
theorem sB1001 : ∀ w ∈ wB1001, w ∈ wA0 := fun w h => sB1000 w (List.mem_cons_of_mem _ h)
theorem mB1001 : Cond.methodLink RL 73 yX6_isSound ∈ wA0 := sB1001 _ List.mem_cons_self
theorem sB1002 : ∀ w ∈ wB1002, w ∈ wA0 := fun w h => sB1001 w (List.mem_cons_of_mem _ h)
theorem mB1002 : Cond.instanceMethod yX6_isSound ∈ wA0 := sB1002 _ List.mem_cons_self
theorem sB1003 : ∀ w ∈ wB1003, w ∈ wA0 := fun w h => sB1002 w (List.mem_cons_of_mem _ h)
theorem mB1003 : Cond.selects RX6 yX6_isSound yX6_isSound ∈ wA0 := sB1003 _ List.mem_cons_self
theorem sB1004 : ∀ w ∈ wB1004, w ∈ wA0 := fun w h => sB1003 w (List.mem_cons_of_mem _ h)
theorem mB1004 : Cond.codeWith yL_isSound cL_isSound 4 (some .int) [(0, 16, 19, 13)] ∈ wA0 := sB1004 _ List.mem_cons_self
theorem sB1005 : ∀ w ∈ wB1005, w ∈ wA0 := fun w h => sB1004 w (List.mem_cons_of_mem _ h)
theorem mB1005 : Cond.methodLink RL 77 yX6_nextTimestamp ∈ wA0 := sB1005 _ List.mem_cons_self
theorem sB1006 : ∀ w ∈ wB1006, w ∈ wA0 := fun w h => sB1005 w (List.mem_cons_of_mem _ h)
theorem mB1006 : Cond.instanceMethod yX6_nextTimestamp ∈ wA0 := sB1006 _ List.mem_cons_self
theorem sB1007 : ∀ w ∈ wB1007, w ∈ wA0 := fun w h => sB1006 w (List.mem_cons_of_mem _ h)
theorem mB1007 : Cond.selects RX6 yX6_nextTimestamp yX6_nextTimestamp ∈ wA0 := sB1007 _ List.mem_cons_self
theorem sB1008 : ∀ w ∈ wB1008, w ∈ wA0 := fun w h => sB1007 w (List.mem_cons_of_mem _ h)
theorem mB1008 : Cond.codeWith yL_nextTimestamp cL_nextTimestamp 4 (some .int) [(0, 9, 12, 13)] ∈ wA0 := sB1008 _ List.mem_cons_self
theorem sB1009 : ∀ w ∈ wB1009, w ∈ wA0 := fun w h => sB1008 w (List.mem_cons_of_mem _ h)
theorem mB1009 : Cond.codeWith yL_state cL_state 4 (some .int) [(0, 9, 12, 13)] ∈ wA0 := sB1009 _ List.mem_cons_self
theorem sB1010 : ∀ w ∈ wB1010, w ∈ wA0 := fun w h => sB1009 w (List.mem_cons_of_mem _ h)
theorem mB1010 : Cond.methodLink RL 80 yX6_state ∈ wA0 := sB1010 _ List.mem_cons_self
theorem sB1011 : ∀ w ∈ wB1011, w ∈ wA0 := fun w h => sB1010 w (List.mem_cons_of_mem _ h)
theorem mB1011 : Cond.instanceMethod yX6_state ∈ wA0 := sB1011 _ List.mem_cons_self
theorem sB1012 : ∀ w ∈ wB1012, w ∈ wA0 := fun w h => sB1011 w (List.mem_cons_of_mem _ h)
theorem mB1012 : Cond.selects RX6 yX6_state yX6_state ∈ wA0 := sB1012 _ List.mem_cons_self
theorem sB1013 : ∀ w ∈ wB1013, w ∈ wA0 := fun w h => sB1012 w (List.mem_cons_of_mem _ h)
theorem mB1013 : Cond.codeWith yL_timestamp cL_timestamp 4 (some .int) [(0, 9, 12, 13)] ∈ wA0 := sB1013 _ List.mem_cons_self
theorem sB1014 : ∀ w ∈ wB1014, w ∈ wA0 := fun w h => sB1013 w (List.mem_cons_of_mem _ h)
theorem mB1014 : Cond.methodLink RL 83 yX6_timestamp ∈ wA0 := sB1014 _ List.mem_cons_self
theorem sB1015 : ∀ w ∈ wB1015, w ∈ wA0 := fun w h => sB1014 w (List.mem_cons_of_mem _ h)
theorem mB1015 : Cond.instanceMethod yX6_timestamp ∈ wA0 := sB1015 _ List.mem_cons_self
theorem sB1016 : ∀ w ∈ wB1016, w ∈ wA0 := fun w h => sB1015 w (List.mem_cons_of_mem _ h)
theorem mB1016 : Cond.selects RX6 yX6_timestamp yX6_timestamp ∈ wA0 := sB1016 _ List.mem_cons_self
theorem sB1017 : ∀ w ∈ wB1017, w ∈ wA0 := fun w h => sB1016 w (List.mem_cons_of_mem _ h)
theorem mB1017 : Cond.codeWith yL_requestTime cL_requestTime 4 (some .int) [(0, 9, 12, 13)] ∈ wA0 := sB1017 _ List.mem_cons_self
theorem sB1018 : ∀ w ∈ wB1018, w ∈ wA0 := fun w h => sB1017 w (List.mem_cons_of_mem _ h)
theorem mB1018 : Cond.methodLink RL 86 yX6_requestTime ∈ wA0 := sB1018 _ List.mem_cons_self
theorem sB1019 : ∀ w ∈ wB1019, w ∈ wA0 := fun w h => sB1018 w (List.mem_cons_of_mem _ h)
theorem mB1019 : Cond.instanceMethod yX6_requestTime ∈ wA0 := sB1019 _ List.mem_cons_self
theorem sB1020 : ∀ w ∈ wB1020, w ∈ wA0 := fun w h => sB1019 w (List.mem_cons_of_mem _ h)
theorem mB1020 : Cond.selects RX6 yX6_requestTime yX6_requestTime ∈ wA0 := sB1020 _ List.mem_cons_self
theorem sB1021 : ∀ w ∈ wB1021, w ∈ wA0 := fun w h => sB1020 w (List.mem_cons_of_mem _ h)
theorem mB1021 : Cond.codeWith yL_commitTime cL_commitTime 4 (some .int) [(0, 9, 12, 13)] ∈ wA0 := sB1021 _ List.mem_cons_self
theorem sB1022 : ∀ w ∈ wB1022, w ∈ wA0 := fun w h => sB1021 w (List.mem_cons_of_mem _ h)
theorem mB1022 : Cond.methodLink RL 89 yX6_commitTime ∈ wA0 := sB1022 _ List.mem_cons_self
theorem sB1023 : ∀ w ∈ wB1023, w ∈ wA0 := fun w h => sB1022 w (List.mem_cons_of_mem _ h)
theorem mB1023 : Cond.instanceMethod yX6_commitTime ∈ wA0 := sB1023 _ List.mem_cons_self
theorem sB1024 : ∀ w ∈ wB1024, w ∈ wA0 := fun w h => sB1023 w (List.mem_cons_of_mem _ h)
theorem mB1024 : Cond.selects RX6 yX6_commitTime yX6_commitTime ∈ wA0 := sB1024 _ List.mem_cons_self
theorem sB1025 : ∀ w ∈ wB1025, w ∈ wA0 := fun w h => sB1024 w (List.mem_cons_of_mem _ h)
theorem mB1025 : Cond.methodLink RL 92 yX6_bufferedValue ∈ wA0 := sB1025 _ List.mem_cons_self
theorem sB1026 : ∀ w ∈ wB1026, w ∈ wA0 := fun w h => sB1025 w (List.mem_cons_of_mem _ h)
theorem mB1026 : Cond.instanceMethod yX6_bufferedValue ∈ wA0 := sB1026 _ List.mem_cons_self
theorem sB1027 : ∀ w ∈ wB1027, w ∈ wA0 := fun w h => sB1026 w (List.mem_cons_of_mem _ h)
theorem mB1027 : Cond.selects RX6 yX6_bufferedValue yX6_bufferedValue ∈ wA0 := sB1027 _ List.mem_cons_self
theorem sB1028 : ∀ w ∈ wB1028, w ∈ wA0 := fun w h => sB1027 w (List.mem_cons_of_mem _ h)
theorem mB1028 : Cond.codeWith yL_bufferedValue cL_bufferedValue 5 (some .int) [(0, 10, 13, 13)] ∈ wA0 := sB1028 _ List.mem_cons_self
theorem sB1029 : ∀ w ∈ wB1029, w ∈ wA0 := fun w h => sB1028 w (List.mem_cons_of_mem _ h)
theorem mB1029 : Cond.methodLink RL 95 yX6_recordedTimestamp ∈ wA0 := sB1029 _ List.mem_cons_self
theorem sB1030 : ∀ w ∈ wB1030, w ∈ wA0 := fun w h => sB1029 w (List.mem_cons_of_mem _ h)
theorem mB1030 : Cond.instanceMethod yX6_recordedTimestamp ∈ wA0 := sB1030 _ List.mem_cons_self
theorem sB1031 : ∀ w ∈ wB1031, w ∈ wA0 := fun w h => sB1030 w (List.mem_cons_of_mem _ h)
theorem mB1031 : Cond.selects RX6 yX6_recordedTimestamp yX6_recordedTimestamp ∈ wA0 := sB1031 _ List.mem_cons_self
theorem sB1032 : ∀ w ∈ wB1032, w ∈ wA0 := fun w h => sB1031 w (List.mem_cons_of_mem _ h)
theorem mB1032 : Cond.codeWith yL_recordedTimestamp cL_recordedTimestamp 5 (some .int) [(0, 10, 13, 13)] ∈ wA0 := sB1032 _ List.mem_cons_self
theorem sB1033 : ∀ w ∈ wB1033, w ∈ wA0 := fun w h => sB1032 w (List.mem_cons_of_mem _ h)
theorem mB1033 : Cond.methodLink RL 98 yX6_ifCommitted ∈ wA0 := sB1033 _ List.mem_cons_self
theorem sB1034 : ∀ w ∈ wB1034, w ∈ wA0 := fun w h => sB1033 w (List.mem_cons_of_mem _ h)
theorem mB1034 : Cond.instanceMethod yX6_ifCommitted ∈ wA0 := sB1034 _ List.mem_cons_self
theorem sB1035 : ∀ w ∈ wB1035, w ∈ wA0 := fun w h => sB1034 w (List.mem_cons_of_mem _ h)
theorem mB1035 : Cond.selects RX6 yX6_ifCommitted yX6_ifCommitted ∈ wA0 := sB1035 _ List.mem_cons_self
theorem sB1036 : ∀ w ∈ wB1036, w ∈ wA0 := fun w h => sB1035 w (List.mem_cons_of_mem _ h)
theorem mB1036 : Cond.codeWith yL_ifCommitted cL_ifCommitted 4 (some .int) [(0, 9, 12, 13)] ∈ wA0 := sB1036 _ List.mem_cons_self
theorem sB1037 : ∀ w ∈ wB1037, w ∈ wA0 := fun w h => sB1036 w (List.mem_cons_of_mem _ h)
theorem mB1037 : Cond.methodLink RL 101 yX6_ticksToCommit ∈ wA0 := sB1037 _ List.mem_cons_self
theorem sB1038 : ∀ w ∈ wB1038, w ∈ wA0 := fun w h => sB1037 w (List.mem_cons_of_mem _ h)
theorem mB1038 : Cond.instanceMethod yX6_ticksToCommit ∈ wA0 := sB1038 _ List.mem_cons_self
theorem sB1039 : ∀ w ∈ wB1039, w ∈ wA0 := fun w h => sB1038 w (List.mem_cons_of_mem _ h)
theorem mB1039 : Cond.selects RX6 yX6_ticksToCommit yX6_ticksToCommit ∈ wA0 := sB1039 _ List.mem_cons_self
theorem sB1040 : ∀ w ∈ wB1040, w ∈ wA0 := fun w h => sB1039 w (List.mem_cons_of_mem _ h)
theorem mB1040 : Cond.codeWith yL_ticksToCommit cL_ticksToCommit 4 (some .int) [(0, 9, 12, 13)] ∈ wA0 := sB1040 _ List.mem_cons_self
theorem sB1041 : ∀ w ∈ wB1041, w ∈ wA0 := fun w h => sB1040 w (List.mem_cons_of_mem _ h)
theorem mB1041 : Cond.codeWith yL_versions cL_versions 4 (some .int) [(0, 9, 12, 13)] ∈ wA0 := sB1041 _ List.mem_cons_self
theorem sB1042 : ∀ w ∈ wB1042, w ∈ wA0 := fun w h => sB1041 w (List.mem_cons_of_mem _ h)
theorem mB1042 : Cond.methodLink RL 104 yX6_versions ∈ wA0 := sB1042 _ List.mem_cons_self
theorem sB1043 : ∀ w ∈ wB1043, w ∈ wA0 := fun w h => sB1042 w (List.mem_cons_of_mem _ h)
theorem mB1043 : Cond.instanceMethod yX6_versions ∈ wA0 := sB1043 _ List.mem_cons_self
theorem sB1044 : ∀ w ∈ wB1044, w ∈ wA0 := fun w h => sB1043 w (List.mem_cons_of_mem _ h)
theorem mB1044 : Cond.selects RX6 yX6_versions yX6_versions ∈ wA0 := sB1044 _ List.mem_cons_self
theorem sB1045 : ∀ w ∈ wB1045, w ∈ wA0 := fun w h => sB1044 w (List.mem_cons_of_mem _ h)
theorem mB1045 : Cond.codeWith yL_versionTimestamp cL_versionTimestamp 5 (some .int) [(0, 10, 13, 13)] ∈ wA0 := sB1045 _ List.mem_cons_self
theorem sB1046 : ∀ w ∈ wB1046, w ∈ wA0 := fun w h => sB1045 w (List.mem_cons_of_mem _ h)
theorem mB1046 : Cond.methodLink RL 107 yX6_versionTimestamp ∈ wA0 := sB1046 _ List.mem_cons_self
theorem sB1047 : ∀ w ∈ wB1047, w ∈ wA0 := fun w h => sB1046 w (List.mem_cons_of_mem _ h)
theorem mB1047 : Cond.instanceMethod yX6_versionTimestamp ∈ wA0 := sB1047 _ List.mem_cons_self
theorem sB1048 : ∀ w ∈ wB1048, w ∈ wA0 := fun w h => sB1047 w (List.mem_cons_of_mem _ h)
theorem mB1048 : Cond.selects RX6 yX6_versionTimestamp yX6_versionTimestamp ∈ wA0 := sB1048 _ List.mem_cons_self
theorem sB1049 : ∀ w ∈ wB1049, w ∈ wA0 := fun w h => sB1048 w (List.mem_cons_of_mem _ h)
theorem mB1049 : Cond.methodLink RL 110 yX6_valueAt ∈ wA0 := sB1049 _ List.mem_cons_self
theorem sB1050 : ∀ w ∈ wB1050, w ∈ wA0 := fun w h => sB1049 w (List.mem_cons_of_mem _ h)
theorem mB1050 : Cond.instanceMethod yX6_valueAt ∈ wA0 := sB1050 _ List.mem_cons_self
theorem sB1051 : ∀ w ∈ wB1051, w ∈ wA0 := fun w h => sB1050 w (List.mem_cons_of_mem _ h)
theorem mB1051 : Cond.selects RX6 yX6_valueAt yX6_valueAt ∈ wA0 := sB1051 _ List.mem_cons_self
theorem sB1052 : ∀ w ∈ wB1052, w ∈ wA0 := fun w h => sB1051 w (List.mem_cons_of_mem _ h)
theorem mB1052 : Cond.codeWith yL_valueAt cL_valueAt 5 (some .int) [(0, 10, 13, 13), (0, 10, 17, 25)] ∈ wA0 := sB1052 _ List.mem_cons_self
theorem sB1053 : ∀ w ∈ wB1053, w ∈ wA0 := fun w h => sB1052 w (List.mem_cons_of_mem _ h)
theorem mB1053 : Cond.methodLink RL 113 yX6_replayedValueAt ∈ wA0 := sB1053 _ List.mem_cons_self
theorem sB1054 : ∀ w ∈ wB1054, w ∈ wA0 := fun w h => sB1053 w (List.mem_cons_of_mem _ h)
theorem mB1054 : Cond.instanceMethod yX6_replayedValueAt ∈ wA0 := sB1054 _ List.mem_cons_self
theorem sB1055 : ∀ w ∈ wB1055, w ∈ wA0 := fun w h => sB1054 w (List.mem_cons_of_mem _ h)
theorem mB1055 : Cond.selects RX6 yX6_replayedValueAt yX6_replayedValueAt ∈ wA0 := sB1055 _ List.mem_cons_self
theorem sB1056 : ∀ w ∈ wB1056, w ∈ wA0 := fun w h => sB1055 w (List.mem_cons_of_mem _ h)
theorem mB1056 : Cond.codeWith yL_replayedValueAt cL_replayedValueAt 5 (some .int) [(0, 10, 13, 13), (0, 10, 17, 25)] ∈ wA0 := sB1056 _ List.mem_cons_self
theorem sB1057 : ∀ w ∈ wB1057, w ∈ wA0 := fun w h => sB1056 w (List.mem_cons_of_mem _ h)
theorem mB1057 : Cond.methodLink RL 116 yX6_waitingWriter ∈ wA0 := sB1057 _ List.mem_cons_self
theorem sB1058 : ∀ w ∈ wB1058, w ∈ wA0 := fun w h => sB1057 w (List.mem_cons_of_mem _ h)
theorem mB1058 : Cond.instanceMethod yX6_waitingWriter ∈ wA0 := sB1058 _ List.mem_cons_self
theorem sB1059 : ∀ w ∈ wB1059, w ∈ wA0 := fun w h => sB1058 w (List.mem_cons_of_mem _ h)
theorem mB1059 : Cond.selects RX6 yX6_waitingWriter yX6_waitingWriter ∈ wA0 := sB1059 _ List.mem_cons_self
theorem sB1060 : ∀ w ∈ wB1060, w ∈ wA0 := fun w h => sB1059 w (List.mem_cons_of_mem _ h)
theorem mB1060 : Cond.codeWith yL_waitingWriter cL_waitingWriter 4 (some .int) [(0, 9, 12, 13)] ∈ wA0 := sB1060 _ List.mem_cons_self
theorem sB1061 : ∀ w ∈ wB1061, w ∈ wA0 := fun w h => sB1060 w (List.mem_cons_of_mem _ h)
theorem mB1061 : Cond.methodLink RL 119 yX6_readerMark ∈ wA0 := sB1061 _ List.mem_cons_self
theorem sB1062 : ∀ w ∈ wB1062, w ∈ wA0 := fun w h => sB1061 w (List.mem_cons_of_mem _ h)
theorem mB1062 : Cond.instanceMethod yX6_readerMark ∈ wA0 := sB1062 _ List.mem_cons_self
theorem sB1063 : ∀ w ∈ wB1063, w ∈ wA0 := fun w h => sB1062 w (List.mem_cons_of_mem _ h)
theorem mB1063 : Cond.selects RX6 yX6_readerMark yX6_readerMark ∈ wA0 := sB1063 _ List.mem_cons_self
theorem sB1064 : ∀ w ∈ wB1064, w ∈ wA0 := fun w h => sB1063 w (List.mem_cons_of_mem _ h)
theorem mB1064 : Cond.codeWith yL_readerMark cL_readerMark 4 (some .int) [(0, 9, 12, 13)] ∈ wA0 := sB1064 _ List.mem_cons_self
theorem sB1065 : ∀ w ∈ wB1065, w ∈ wA0 := fun w h => sB1064 w (List.mem_cons_of_mem _ h)
theorem mB1065 : Cond.methodLink RL 122 yX6_ticksUntilSafe ∈ wA0 := sB1065 _ List.mem_cons_self
theorem sB1066 : ∀ w ∈ wB1066, w ∈ wA0 := fun w h => sB1065 w (List.mem_cons_of_mem _ h)
theorem mB1066 : Cond.instanceMethod yX6_ticksUntilSafe ∈ wA0 := sB1066 _ List.mem_cons_self
theorem sB1067 : ∀ w ∈ wB1067, w ∈ wA0 := fun w h => sB1066 w (List.mem_cons_of_mem _ h)
theorem mB1067 : Cond.selects RX6 yX6_ticksUntilSafe yX6_ticksUntilSafe ∈ wA0 := sB1067 _ List.mem_cons_self
theorem sB1068 : ∀ w ∈ wB1068, w ∈ wA0 := fun w h => sB1067 w (List.mem_cons_of_mem _ h)
theorem mB1068 : Cond.codeWith yL_ticksUntilSafe cL_ticksUntilSafe 4 (some .int) [(0, 9, 12, 25)] ∈ wA0 := sB1068 _ List.mem_cons_self
theorem sB1069 : ∀ w ∈ wB1069, w ∈ wA0 := fun w h => sB1068 w (List.mem_cons_of_mem _ h)
theorem mB1069 : Cond.codeWith yL_countInState cL_countInState 4 (some .int) [(0, 9, 12, 25)] ∈ wA0 := sB1069 _ List.mem_cons_self
theorem sB1070 : ∀ w ∈ wB1070, w ∈ wA0 := fun w h => sB1069 w (List.mem_cons_of_mem _ h)
theorem mB1070 : Cond.methodLink RL 125 yX6_countInState ∈ wA0 := sB1070 _ List.mem_cons_self
theorem sB1071 : ∀ w ∈ wB1071, w ∈ wA0 := fun w h => sB1070 w (List.mem_cons_of_mem _ h)
theorem mB1071 : Cond.instanceMethod yX6_countInState ∈ wA0 := sB1071 _ List.mem_cons_self
theorem sB1072 : ∀ w ∈ wB1072, w ∈ wA0 := fun w h => sB1071 w (List.mem_cons_of_mem _ h)
theorem mB1072 : Cond.selects RX6 yX6_countInState yX6_countInState ∈ wA0 := sB1072 _ List.mem_cons_self
theorem sB1073 : ∀ w ∈ wB1073, w ∈ wA0 := fun w h => sB1072 w (List.mem_cons_of_mem _ h)
theorem mB1073 : Cond.classLink RL 8 RX6 ∈ wA0 := sB1073 _ List.mem_cons_self
theorem sB1074 : ∀ w ∈ wB1074, w ∈ wA0 := fun w h => sB1073 w (List.mem_cons_of_mem _ h)
theorem mB1074 : Cond.instantiable RX6 5 ∈ wA0 := sB1074 _ List.mem_cons_self
theorem sB1075 : ∀ w ∈ wB1075, w ∈ wA0 := fun w h => sB1074 w (List.mem_cons_of_mem _ h)
theorem mB1075 : Cond.classLink RL 129 RX7 ∈ wA0 := sB1075 _ List.mem_cons_self
theorem sB1076 : ∀ w ∈ wB1076, w ∈ wA0 := fun w h => sB1075 w (List.mem_cons_of_mem _ h)
theorem mB1076 : Cond.instantiable RX7 8 ∈ wA0 := sB1076 _ List.mem_cons_self
theorem sB1077 : ∀ w ∈ wB1077, w ∈ wA0 := fun w h => sB1076 w (List.mem_cons_of_mem _ h)
theorem mB1077 : Cond.arrayClass .long ∈ wA0 := sB1077 _ List.mem_cons_self
theorem sB1078 : ∀ w ∈ wB1078, w ∈ wA0 := fun w h => sB1077 w (List.mem_cons_of_mem _ h)
theorem mB1078 : Cond.methodLink RL 128 yX6_init ∈ wA0 := sB1078 _ List.mem_cons_self
theorem sB1079 : ∀ w ∈ wB1079, w ∈ wA0 := fun w h => sB1078 w (List.mem_cons_of_mem _ h)
theorem mB1079 : Cond.instanceMethod yX6_init ∈ wA0 := sB1079 _ List.mem_cons_self
theorem sB1080 : ∀ w ∈ wB1080, w ∈ wA0 := fun w h => sB1079 w (List.mem_cons_of_mem _ h)
theorem mB1080 : Cond.methodLink RL 131 yX7_init ∈ wA0 := sB1080 _ List.mem_cons_self
theorem sB1081 : ∀ w ∈ wB1081, w ∈ wA0 := fun w h => sB1080 w (List.mem_cons_of_mem _ h)
theorem mB1081 : Cond.instanceMethod yX7_init ∈ wA0 := sB1081 _ List.mem_cons_self
theorem sB1082 : ∀ w ∈ wB1082, w ∈ wA0 := fun w h => sB1081 w (List.mem_cons_of_mem _ h)
theorem mB1082 : Cond.methodLink RL 132 yL_begin ∈ wA0 := sB1082 _ List.mem_cons_self
theorem sB1083 : ∀ w ∈ wB1083, w ∈ wA0 := fun w h => sB1082 w (List.mem_cons_of_mem _ h)
theorem mB1083 : Cond.static yL_begin ∈ wA0 := sB1083 _ List.mem_cons_self
theorem sB1084 : ∀ w ∈ wB1084, w ∈ wA0 := fun w h => sB1083 w (List.mem_cons_of_mem _ h)
theorem mB1084 : Cond.initialized RL ∈ wA0 := sB1084 _ List.mem_cons_self
theorem sB1085 : ∀ w ∈ wB1085, w ∈ wA0 := fun w h => sB1084 w (List.mem_cons_of_mem _ h)
theorem mB1085 : Cond.methodLink RL 137 yX7_begin ∈ wA0 := sB1085 _ List.mem_cons_self
theorem sB1086 : ∀ w ∈ wB1086, w ∈ wA0 := fun w h => sB1085 w (List.mem_cons_of_mem _ h)
theorem mB1086 : Cond.instanceMethod yX7_begin ∈ wA0 := sB1086 _ List.mem_cons_self
theorem sB1087 : ∀ w ∈ wB1087, w ∈ wA0 := fun w h => sB1086 w (List.mem_cons_of_mem _ h)
theorem mB1087 : Cond.selects RX7 yX7_begin yX7_begin ∈ wA0 := sB1087 _ List.mem_cons_self
theorem sB1088 : ∀ w ∈ wB1088, w ∈ wA0 := fun w h => sB1087 w (List.mem_cons_of_mem _ h)
theorem mB1088 : Cond.methodLink RL 138 yX7_thrown ∈ wA0 := sB1088 _ List.mem_cons_self
theorem sB1089 : ∀ w ∈ wB1089, w ∈ wA0 := fun w h => sB1088 w (List.mem_cons_of_mem _ h)
theorem mB1089 : Cond.instanceMethod yX7_thrown ∈ wA0 := sB1089 _ List.mem_cons_self
theorem sB1090 : ∀ w ∈ wB1090, w ∈ wA0 := fun w h => sB1089 w (List.mem_cons_of_mem _ h)
theorem mB1090 : Cond.selects RX7 yX7_thrown yX7_thrown ∈ wA0 := sB1090 _ List.mem_cons_self
theorem sB1091 : ∀ w ∈ wB1091, w ∈ wA0 := fun w h => sB1090 w (List.mem_cons_of_mem _ h)
theorem mB1091 : Cond.methodLink RL 141 yL_read ∈ wA0 := sB1091 _ List.mem_cons_self
theorem sB1092 : ∀ w ∈ wB1092, w ∈ wA0 := fun w h => sB1091 w (List.mem_cons_of_mem _ h)
theorem mB1092 : Cond.static yL_read ∈ wA0 := sB1092 _ List.mem_cons_self
theorem sB1093 : ∀ w ∈ wB1093, w ∈ wA0 := fun w h => sB1092 w (List.mem_cons_of_mem _ h)
theorem mB1093 : Cond.methodLink RL 144 yX7_read ∈ wA0 := sB1093 _ List.mem_cons_self
theorem sB1094 : ∀ w ∈ wB1094, w ∈ wA0 := fun w h => sB1093 w (List.mem_cons_of_mem _ h)
theorem mB1094 : Cond.instanceMethod yX7_read ∈ wA0 := sB1094 _ List.mem_cons_self
theorem sB1095 : ∀ w ∈ wB1095, w ∈ wA0 := fun w h => sB1094 w (List.mem_cons_of_mem _ h)
theorem mB1095 : Cond.selects RX7 yX7_read yX7_read ∈ wA0 := sB1095 _ List.mem_cons_self
theorem sB1096 : ∀ w ∈ wB1096, w ∈ wA0 := fun w h => sB1095 w (List.mem_cons_of_mem _ h)
theorem mB1096 : Cond.methodLink RL 145 yL_write ∈ wA0 := sB1096 _ List.mem_cons_self
theorem sB1097 : ∀ w ∈ wB1097, w ∈ wA0 := fun w h => sB1096 w (List.mem_cons_of_mem _ h)
theorem mB1097 : Cond.static yL_write ∈ wA0 := sB1097 _ List.mem_cons_self
theorem sB1098 : ∀ w ∈ wB1098, w ∈ wA0 := fun w h => sB1097 w (List.mem_cons_of_mem _ h)
theorem mB1098 : Cond.methodLink RL 148 yX7_write ∈ wA0 := sB1098 _ List.mem_cons_self
theorem sB1099 : ∀ w ∈ wB1099, w ∈ wA0 := fun w h => sB1098 w (List.mem_cons_of_mem _ h)
theorem mB1099 : Cond.instanceMethod yX7_write ∈ wA0 := sB1099 _ List.mem_cons_self
theorem sB1100 : ∀ w ∈ wB1100, w ∈ wA0 := fun w h => sB1099 w (List.mem_cons_of_mem _ h)
theorem mB1100 : Cond.selects RX7 yX7_write yX7_write ∈ wA0 := sB1100 _ List.mem_cons_self
theorem sB1101 : ∀ w ∈ wB1101, w ∈ wA0 := fun w h => sB1100 w (List.mem_cons_of_mem _ h)
theorem mB1101 : Cond.methodLink RL 149 yL_commit ∈ wA0 := sB1101 _ List.mem_cons_self
theorem sB1102 : ∀ w ∈ wB1102, w ∈ wA0 := fun w h => sB1101 w (List.mem_cons_of_mem _ h)
theorem mB1102 : Cond.static yL_commit ∈ wA0 := sB1102 _ List.mem_cons_self
theorem sB1103 : ∀ w ∈ wB1103, w ∈ wA0 := fun w h => sB1102 w (List.mem_cons_of_mem _ h)
theorem mB1103 : Cond.methodLink RL 151 yX7_commit ∈ wA0 := sB1103 _ List.mem_cons_self
theorem sB1104 : ∀ w ∈ wB1104, w ∈ wA0 := fun w h => sB1103 w (List.mem_cons_of_mem _ h)
theorem mB1104 : Cond.instanceMethod yX7_commit ∈ wA0 := sB1104 _ List.mem_cons_self
theorem sB1105 : ∀ w ∈ wB1105, w ∈ wA0 := fun w h => sB1104 w (List.mem_cons_of_mem _ h)
theorem mB1105 : Cond.selects RX7 yX7_commit yX7_commit ∈ wA0 := sB1105 _ List.mem_cons_self
theorem sB1106 : ∀ w ∈ wB1106, w ∈ wA0 := fun w h => sB1105 w (List.mem_cons_of_mem _ h)
theorem mB1106 : Cond.methodLink RL 152 yL_abort ∈ wA0 := sB1106 _ List.mem_cons_self
theorem sB1107 : ∀ w ∈ wB1107, w ∈ wA0 := fun w h => sB1106 w (List.mem_cons_of_mem _ h)
theorem mB1107 : Cond.static yL_abort ∈ wA0 := sB1107 _ List.mem_cons_self
theorem sB1108 : ∀ w ∈ wB1108, w ∈ wA0 := fun w h => sB1107 w (List.mem_cons_of_mem _ h)
theorem mB1108 : Cond.methodLink RL 154 yX7_abort ∈ wA0 := sB1108 _ List.mem_cons_self
theorem sB1109 : ∀ w ∈ wB1109, w ∈ wA0 := fun w h => sB1108 w (List.mem_cons_of_mem _ h)
theorem mB1109 : Cond.instanceMethod yX7_abort ∈ wA0 := sB1109 _ List.mem_cons_self
theorem sB1110 : ∀ w ∈ wB1110, w ∈ wA0 := fun w h => sB1109 w (List.mem_cons_of_mem _ h)
theorem mB1110 : Cond.selects RX7 yX7_abort yX7_abort ∈ wA0 := sB1110 _ List.mem_cons_self
theorem sB1111 : ∀ w ∈ wB1111, w ∈ wA0 := fun w h => sB1110 w (List.mem_cons_of_mem _ h)
theorem mB1111 : Cond.methodLink RL 155 yL_advance ∈ wA0 := sB1111 _ List.mem_cons_self
theorem sB1112 : ∀ w ∈ wB1112, w ∈ wA0 := fun w h => sB1111 w (List.mem_cons_of_mem _ h)
theorem mB1112 : Cond.static yL_advance ∈ wA0 := sB1112 _ List.mem_cons_self
theorem sB1113 : ∀ w ∈ wB1113, w ∈ wA0 := fun w h => sB1112 w (List.mem_cons_of_mem _ h)
theorem mB1113 : Cond.methodLink RL 157 yX7_advance ∈ wA0 := sB1113 _ List.mem_cons_self
theorem sB1114 : ∀ w ∈ wB1114, w ∈ wA0 := fun w h => sB1113 w (List.mem_cons_of_mem _ h)
theorem mB1114 : Cond.instanceMethod yX7_advance ∈ wA0 := sB1114 _ List.mem_cons_self
theorem sB1115 : ∀ w ∈ wB1115, w ∈ wA0 := fun w h => sB1114 w (List.mem_cons_of_mem _ h)
theorem mB1115 : Cond.selects RX7 yX7_advance yX7_advance ∈ wA0 := sB1115 _ List.mem_cons_self
theorem sB1116 : ∀ w ∈ wB1116, w ∈ wA0 := fun w h => sB1115 w (List.mem_cons_of_mem _ h)
theorem mB1116 : Cond.methodLink RL 158 yL_synchronize ∈ wA0 := sB1116 _ List.mem_cons_self
theorem sB1117 : ∀ w ∈ wB1117, w ∈ wA0 := fun w h => sB1116 w (List.mem_cons_of_mem _ h)
theorem mB1117 : Cond.static yL_synchronize ∈ wA0 := sB1117 _ List.mem_cons_self
theorem sB1118 : ∀ w ∈ wB1118, w ∈ wA0 := fun w h => sB1117 w (List.mem_cons_of_mem _ h)
theorem mB1118 : Cond.methodLink RL 160 yX7_synchronize ∈ wA0 := sB1118 _ List.mem_cons_self
theorem sB1119 : ∀ w ∈ wB1119, w ∈ wA0 := fun w h => sB1118 w (List.mem_cons_of_mem _ h)
theorem mB1119 : Cond.instanceMethod yX7_synchronize ∈ wA0 := sB1119 _ List.mem_cons_self
theorem sB1120 : ∀ w ∈ wB1120, w ∈ wA0 := fun w h => sB1119 w (List.mem_cons_of_mem _ h)
theorem mB1120 : Cond.selects RX7 yX7_synchronize yX7_synchronize ∈ wA0 := sB1120 _ List.mem_cons_self
theorem sB1121 : ∀ w ∈ wB1121, w ∈ wA0 := fun w h => sB1120 w (List.mem_cons_of_mem _ h)
theorem mB1121 : Cond.methodLink RL 161 yL_setDrift ∈ wA0 := sB1121 _ List.mem_cons_self
theorem sB1122 : ∀ w ∈ wB1122, w ∈ wA0 := fun w h => sB1121 w (List.mem_cons_of_mem _ h)
theorem mB1122 : Cond.static yL_setDrift ∈ wA0 := sB1122 _ List.mem_cons_self
theorem sB1123 : ∀ w ∈ wB1123, w ∈ wA0 := fun w h => sB1122 w (List.mem_cons_of_mem _ h)
theorem mB1123 : Cond.methodLink RL 163 yX7_setDrift ∈ wA0 := sB1123 _ List.mem_cons_self
theorem sB1124 : ∀ w ∈ wB1124, w ∈ wA0 := fun w h => sB1123 w (List.mem_cons_of_mem _ h)
theorem mB1124 : Cond.instanceMethod yX7_setDrift ∈ wA0 := sB1124 _ List.mem_cons_self
theorem sB1125 : ∀ w ∈ wB1125, w ∈ wA0 := fun w h => sB1124 w (List.mem_cons_of_mem _ h)
theorem mB1125 : Cond.selects RX7 yX7_setDrift yX7_setDrift ∈ wA0 := sB1125 _ List.mem_cons_self
theorem sB1126 : ∀ w ∈ wB1126, w ∈ wA0 := fun w h => sB1125 w (List.mem_cons_of_mem _ h)
theorem mB1126 : Cond.methodLink RL 164 yL_setUncertainty ∈ wA0 := sB1126 _ List.mem_cons_self
theorem sB1127 : ∀ w ∈ wB1127, w ∈ wA0 := fun w h => sB1126 w (List.mem_cons_of_mem _ h)
theorem mB1127 : Cond.static yL_setUncertainty ∈ wA0 := sB1127 _ List.mem_cons_self
theorem sB1128 : ∀ w ∈ wB1128, w ∈ wA0 := fun w h => sB1127 w (List.mem_cons_of_mem _ h)
theorem mB1128 : Cond.methodLink RL 166 yX7_setUncertainty ∈ wA0 := sB1128 _ List.mem_cons_self
theorem sB1129 : ∀ w ∈ wB1129, w ∈ wA0 := fun w h => sB1128 w (List.mem_cons_of_mem _ h)
theorem mB1129 : Cond.instanceMethod yX7_setUncertainty ∈ wA0 := sB1129 _ List.mem_cons_self
theorem sB1130 : ∀ w ∈ wB1130, w ∈ wA0 := fun w h => sB1129 w (List.mem_cons_of_mem _ h)
theorem mB1130 : Cond.selects RX7 yX7_setUncertainty yX7_setUncertainty ∈ wA0 := sB1130 _ List.mem_cons_self
theorem sB1131 : ∀ w ∈ wB1131, w ∈ wA0 := fun w h => sB1130 w (List.mem_cons_of_mem _ h)
theorem mB1131 : Cond.methodLink RL 167 yL_snapshotRead ∈ wA0 := sB1131 _ List.mem_cons_self
theorem sB1132 : ∀ w ∈ wB1132, w ∈ wA0 := fun w h => sB1131 w (List.mem_cons_of_mem _ h)
theorem mB1132 : Cond.static yL_snapshotRead ∈ wA0 := sB1132 _ List.mem_cons_self
theorem sB1133 : ∀ w ∈ wB1133, w ∈ wA0 := fun w h => sB1132 w (List.mem_cons_of_mem _ h)
theorem mB1133 : Cond.methodLink RL 169 yX7_snapshotRead ∈ wA0 := sB1133 _ List.mem_cons_self
theorem sB1134 : ∀ w ∈ wB1134, w ∈ wA0 := fun w h => sB1133 w (List.mem_cons_of_mem _ h)
theorem mB1134 : Cond.instanceMethod yX7_snapshotRead ∈ wA0 := sB1134 _ List.mem_cons_self
theorem sB1135 : ∀ w ∈ wB1135, w ∈ wA0 := fun w h => sB1134 w (List.mem_cons_of_mem _ h)
theorem mB1135 : Cond.selects RX7 yX7_snapshotRead yX7_snapshotRead ∈ wA0 := sB1135 _ List.mem_cons_self
theorem sB1136 : ∀ w ∈ wB1136, w ∈ wA0 := fun w h => sB1135 w (List.mem_cons_of_mem _ h)
theorem mB1136 : Cond.methodLink RL 170 yL_appendText ∈ wA0 := sB1136 _ List.mem_cons_self
theorem sB1137 : ∀ w ∈ wB1137, w ∈ wA0 := fun w h => sB1136 w (List.mem_cons_of_mem _ h)
theorem mB1137 : Cond.static yL_appendText ∈ wA0 := sB1137 _ List.mem_cons_self
theorem sB1138 : ∀ w ∈ wB1138, w ∈ wA0 := fun w h => sB1137 w (List.mem_cons_of_mem _ h)
theorem mB1138 : Cond.methodLink RL 172 yX7_appendText ∈ wA0 := sB1138 _ List.mem_cons_self
theorem sB1139 : ∀ w ∈ wB1139, w ∈ wA0 := fun w h => sB1138 w (List.mem_cons_of_mem _ h)
theorem mB1139 : Cond.instanceMethod yX7_appendText ∈ wA0 := sB1139 _ List.mem_cons_self
theorem sB1140 : ∀ w ∈ wB1140, w ∈ wA0 := fun w h => sB1139 w (List.mem_cons_of_mem _ h)
theorem mB1140 : Cond.selects RX7 yX7_appendText yX7_appendText ∈ wA0 := sB1140 _ List.mem_cons_self
theorem sB1141 : ∀ w ∈ wB1141, w ∈ wA0 := fun w h => sB1140 w (List.mem_cons_of_mem _ h)
theorem mB1141 : Cond.methodLink RL 173 yX6_clearText ∈ wA0 := sB1141 _ List.mem_cons_self
theorem sB1142 : ∀ w ∈ wB1142, w ∈ wA0 := fun w h => sB1141 w (List.mem_cons_of_mem _ h)
theorem mB1142 : Cond.instanceMethod yX6_clearText ∈ wA0 := sB1142 _ List.mem_cons_self
theorem sB1143 : ∀ w ∈ wB1143, w ∈ wA0 := fun w h => sB1142 w (List.mem_cons_of_mem _ h)
theorem mB1143 : Cond.selects RX6 yX6_clearText yX6_clearText ∈ wA0 := sB1143 _ List.mem_cons_self
theorem sB1144 : ∀ w ∈ wB1144, w ∈ wA0 := fun w h => sB1143 w (List.mem_cons_of_mem _ h)
theorem mB1144 : Cond.methodLink RL 176 yX7_clearText ∈ wA0 := sB1144 _ List.mem_cons_self
theorem sB1145 : ∀ w ∈ wB1145, w ∈ wA0 := fun w h => sB1144 w (List.mem_cons_of_mem _ h)
theorem mB1145 : Cond.instanceMethod yX7_clearText ∈ wA0 := sB1145 _ List.mem_cons_self
theorem sB1146 : ∀ w ∈ wB1146, w ∈ wA0 := fun w h => sB1145 w (List.mem_cons_of_mem _ h)
theorem mB1146 : Cond.selects RX7 yX7_clearText yX7_clearText ∈ wA0 := sB1146 _ List.mem_cons_self
theorem sB1147 : ∀ w ∈ wB1147, w ∈ wA0 := fun w h => sB1146 w (List.mem_cons_of_mem _ h)
theorem mB1147 : Cond.methodLink RL 177 yX6_errorPosition ∈ wA0 := sB1147 _ List.mem_cons_self
theorem sB1148 : ∀ w ∈ wB1148, w ∈ wA0 := fun w h => sB1147 w (List.mem_cons_of_mem _ h)
theorem mB1148 : Cond.instanceMethod yX6_errorPosition ∈ wA0 := sB1148 _ List.mem_cons_self
theorem sB1149 : ∀ w ∈ wB1149, w ∈ wA0 := fun w h => sB1148 w (List.mem_cons_of_mem _ h)
theorem mB1149 : Cond.selects RX6 yX6_errorPosition yX6_errorPosition ∈ wA0 := sB1149 _ List.mem_cons_self
theorem sB1150 : ∀ w ∈ wB1150, w ∈ wA0 := fun w h => sB1149 w (List.mem_cons_of_mem _ h)
theorem mB1150 : Cond.methodLink RL 180 yX7_errorPosition ∈ wA0 := sB1150 _ List.mem_cons_self
theorem sB1151 : ∀ w ∈ wB1151, w ∈ wA0 := fun w h => sB1150 w (List.mem_cons_of_mem _ h)
theorem mB1151 : Cond.instanceMethod yX7_errorPosition ∈ wA0 := sB1151 _ List.mem_cons_self
theorem sB1152 : ∀ w ∈ wB1152, w ∈ wA0 := fun w h => sB1151 w (List.mem_cons_of_mem _ h)
theorem mB1152 : Cond.selects RX7 yX7_errorPosition yX7_errorPosition ∈ wA0 := sB1152 _ List.mem_cons_self
theorem sB1153 : ∀ w ∈ wB1153, w ∈ wA0 := fun w h => sB1152 w (List.mem_cons_of_mem _ h)
theorem mB1153 : Cond.methodLink RL 181 yL_runText ∈ wA0 := sB1153 _ List.mem_cons_self
theorem sB1154 : ∀ w ∈ wB1154, w ∈ wA0 := fun w h => sB1153 w (List.mem_cons_of_mem _ h)
theorem mB1154 : Cond.static yL_runText ∈ wA0 := sB1154 _ List.mem_cons_self
theorem sB1155 : ∀ w ∈ wB1155, w ∈ wA0 := fun w h => sB1154 w (List.mem_cons_of_mem _ h)
theorem mB1155 : Cond.methodLink RL 184 yX7_runText ∈ wA0 := sB1155 _ List.mem_cons_self
theorem sB1156 : ∀ w ∈ wB1156, w ∈ wA0 := fun w h => sB1155 w (List.mem_cons_of_mem _ h)
theorem mB1156 : Cond.instanceMethod yX7_runText ∈ wA0 := sB1156 _ List.mem_cons_self
theorem sB1157 : ∀ w ∈ wB1157, w ∈ wA0 := fun w h => sB1156 w (List.mem_cons_of_mem _ h)
theorem mB1157 : Cond.selects RX7 yX7_runText yX7_runText ∈ wA0 := sB1157 _ List.mem_cons_self
theorem sB1158 : ∀ w ∈ wB1158, w ∈ wA0 := fun w h => sB1157 w (List.mem_cons_of_mem _ h)
theorem mB1158 : Cond.methodLink RL 185 yL_undo ∈ wA0 := sB1158 _ List.mem_cons_self
theorem sB1159 : ∀ w ∈ wB1159, w ∈ wA0 := fun w h => sB1158 w (List.mem_cons_of_mem _ h)
theorem mB1159 : Cond.static yL_undo ∈ wA0 := sB1159 _ List.mem_cons_self
theorem sB1160 : ∀ w ∈ wB1160, w ∈ wA0 := fun w h => sB1159 w (List.mem_cons_of_mem _ h)
theorem mB1160 : Cond.methodLink RL 187 yX7_undo ∈ wA0 := sB1160 _ List.mem_cons_self
theorem sB1161 : ∀ w ∈ wB1161, w ∈ wA0 := fun w h => sB1160 w (List.mem_cons_of_mem _ h)
theorem mB1161 : Cond.instanceMethod yX7_undo ∈ wA0 := sB1161 _ List.mem_cons_self
theorem sB1162 : ∀ w ∈ wB1162, w ∈ wA0 := fun w h => sB1161 w (List.mem_cons_of_mem _ h)
theorem mB1162 : Cond.selects RX7 yX7_undo yX7_undo ∈ wA0 := sB1162 _ List.mem_cons_self
theorem sB1163 : ∀ w ∈ wB1163, w ∈ wA0 := fun w h => sB1162 w (List.mem_cons_of_mem _ h)
theorem mB1163 : Cond.methodLink RL 188 yL_save ∈ wA0 := sB1163 _ List.mem_cons_self
theorem sB1164 : ∀ w ∈ wB1164, w ∈ wA0 := fun w h => sB1163 w (List.mem_cons_of_mem _ h)
theorem mB1164 : Cond.static yL_save ∈ wA0 := sB1164 _ List.mem_cons_self
theorem sB1165 : ∀ w ∈ wB1165, w ∈ wA0 := fun w h => sB1164 w (List.mem_cons_of_mem _ h)
theorem mB1165 : Cond.methodLink RL 190 yX7_save ∈ wA0 := sB1165 _ List.mem_cons_self
theorem sB1166 : ∀ w ∈ wB1166, w ∈ wA0 := fun w h => sB1165 w (List.mem_cons_of_mem _ h)
theorem mB1166 : Cond.instanceMethod yX7_save ∈ wA0 := sB1166 _ List.mem_cons_self
theorem sB1167 : ∀ w ∈ wB1167, w ∈ wA0 := fun w h => sB1166 w (List.mem_cons_of_mem _ h)
theorem mB1167 : Cond.selects RX7 yX7_save yX7_save ∈ wA0 := sB1167 _ List.mem_cons_self
theorem sB1168 : ∀ w ∈ wB1168, w ∈ wA0 := fun w h => sB1167 w (List.mem_cons_of_mem _ h)
theorem mB1168 : Cond.methodLink RL 191 yL_restore ∈ wA0 := sB1168 _ List.mem_cons_self
theorem sB1169 : ∀ w ∈ wB1169, w ∈ wA0 := fun w h => sB1168 w (List.mem_cons_of_mem _ h)
theorem mB1169 : Cond.static yL_restore ∈ wA0 := sB1169 _ List.mem_cons_self
theorem sB1170 : ∀ w ∈ wB1170, w ∈ wA0 := fun w h => sB1169 w (List.mem_cons_of_mem _ h)
theorem mB1170 : Cond.methodLink RL 193 yX7_restore ∈ wA0 := sB1170 _ List.mem_cons_self
theorem sB1171 : ∀ w ∈ wB1171, w ∈ wA0 := fun w h => sB1170 w (List.mem_cons_of_mem _ h)
theorem mB1171 : Cond.instanceMethod yX7_restore ∈ wA0 := sB1171 _ List.mem_cons_self
theorem sB1172 : ∀ w ∈ wB1172, w ∈ wA0 := fun w h => sB1171 w (List.mem_cons_of_mem _ h)
theorem mB1172 : Cond.selects RX7 yX7_restore yX7_restore ∈ wA0 := sB1172 _ List.mem_cons_self
theorem sB1173 : ∀ w ∈ wB1173, w ∈ wA0 := fun w h => sB1172 w (List.mem_cons_of_mem _ h)
theorem mB1173 : Cond.methodLink RL 194 yX6_trueTime ∈ wA0 := sB1173 _ List.mem_cons_self
theorem sB1174 : ∀ w ∈ wB1174, w ∈ wA0 := fun w h => sB1173 w (List.mem_cons_of_mem _ h)
theorem mB1174 : Cond.instanceMethod yX6_trueTime ∈ wA0 := sB1174 _ List.mem_cons_self
theorem sB1175 : ∀ w ∈ wB1175, w ∈ wA0 := fun w h => sB1174 w (List.mem_cons_of_mem _ h)
theorem mB1175 : Cond.selects RX6 yX6_trueTime yX6_trueTime ∈ wA0 := sB1175 _ List.mem_cons_self
theorem sB1176 : ∀ w ∈ wB1176, w ∈ wA0 := fun w h => sB1175 w (List.mem_cons_of_mem _ h)
theorem mB1176 : Cond.methodLink RL 197 yX7_trueTime ∈ wA0 := sB1176 _ List.mem_cons_self
theorem sB1177 : ∀ w ∈ wB1177, w ∈ wA0 := fun w h => sB1176 w (List.mem_cons_of_mem _ h)
theorem mB1177 : Cond.instanceMethod yX7_trueTime ∈ wA0 := sB1177 _ List.mem_cons_self
theorem sB1178 : ∀ w ∈ wB1178, w ∈ wA0 := fun w h => sB1177 w (List.mem_cons_of_mem _ h)
theorem mB1178 : Cond.selects RX7 yX7_trueTime yX7_trueTime ∈ wA0 := sB1178 _ List.mem_cons_self
theorem sB1179 : ∀ w ∈ wB1179, w ∈ wA0 := fun w h => sB1178 w (List.mem_cons_of_mem _ h)
theorem mB1179 : Cond.methodLink RL 198 yL_reading ∈ wA0 := sB1179 _ List.mem_cons_self
theorem sB1180 : ∀ w ∈ wB1180, w ∈ wA0 := fun w h => sB1179 w (List.mem_cons_of_mem _ h)
theorem mB1180 : Cond.static yL_reading ∈ wA0 := sB1180 _ List.mem_cons_self
theorem sB1181 : ∀ w ∈ wB1181, w ∈ wA0 := fun w h => sB1180 w (List.mem_cons_of_mem _ h)
theorem mB1181 : Cond.methodLink RL 200 yX7_reading ∈ wA0 := sB1181 _ List.mem_cons_self
theorem sB1182 : ∀ w ∈ wB1182, w ∈ wA0 := fun w h => sB1181 w (List.mem_cons_of_mem _ h)
theorem mB1182 : Cond.instanceMethod yX7_reading ∈ wA0 := sB1182 _ List.mem_cons_self
theorem sB1183 : ∀ w ∈ wB1183, w ∈ wA0 := fun w h => sB1182 w (List.mem_cons_of_mem _ h)
theorem mB1183 : Cond.selects RX7 yX7_reading yX7_reading ∈ wA0 := sB1183 _ List.mem_cons_self
theorem sB1184 : ∀ w ∈ wB1184, w ∈ wA0 := fun w h => sB1183 w (List.mem_cons_of_mem _ h)
theorem mB1184 : Cond.methodLink RL 201 yL_earliest ∈ wA0 := sB1184 _ List.mem_cons_self
theorem sB1185 : ∀ w ∈ wB1185, w ∈ wA0 := fun w h => sB1184 w (List.mem_cons_of_mem _ h)
theorem mB1185 : Cond.static yL_earliest ∈ wA0 := sB1185 _ List.mem_cons_self
theorem sB1186 : ∀ w ∈ wB1186, w ∈ wA0 := fun w h => sB1185 w (List.mem_cons_of_mem _ h)
theorem mB1186 : Cond.methodLink RL 203 yX7_earliest ∈ wA0 := sB1186 _ List.mem_cons_self
theorem sB1187 : ∀ w ∈ wB1187, w ∈ wA0 := fun w h => sB1186 w (List.mem_cons_of_mem _ h)
theorem mB1187 : Cond.instanceMethod yX7_earliest ∈ wA0 := sB1187 _ List.mem_cons_self
theorem sB1188 : ∀ w ∈ wB1188, w ∈ wA0 := fun w h => sB1187 w (List.mem_cons_of_mem _ h)
theorem mB1188 : Cond.selects RX7 yX7_earliest yX7_earliest ∈ wA0 := sB1188 _ List.mem_cons_self
theorem sB1189 : ∀ w ∈ wB1189, w ∈ wA0 := fun w h => sB1188 w (List.mem_cons_of_mem _ h)
theorem mB1189 : Cond.methodLink RL 204 yL_latest ∈ wA0 := sB1189 _ List.mem_cons_self
theorem sB1190 : ∀ w ∈ wB1190, w ∈ wA0 := fun w h => sB1189 w (List.mem_cons_of_mem _ h)
theorem mB1190 : Cond.static yL_latest ∈ wA0 := sB1190 _ List.mem_cons_self
theorem sB1191 : ∀ w ∈ wB1191, w ∈ wA0 := fun w h => sB1190 w (List.mem_cons_of_mem _ h)
theorem mB1191 : Cond.methodLink RL 206 yX7_latest ∈ wA0 := sB1191 _ List.mem_cons_self
theorem sB1192 : ∀ w ∈ wB1192, w ∈ wA0 := fun w h => sB1191 w (List.mem_cons_of_mem _ h)
theorem mB1192 : Cond.instanceMethod yX7_latest ∈ wA0 := sB1192 _ List.mem_cons_self
theorem sB1193 : ∀ w ∈ wB1193, w ∈ wA0 := fun w h => sB1192 w (List.mem_cons_of_mem _ h)
theorem mB1193 : Cond.selects RX7 yX7_latest yX7_latest ∈ wA0 := sB1193 _ List.mem_cons_self
theorem sB1194 : ∀ w ∈ wB1194, w ∈ wA0 := fun w h => sB1193 w (List.mem_cons_of_mem _ h)
theorem mB1194 : Cond.methodLink RL 207 yL_isSound ∈ wA0 := sB1194 _ List.mem_cons_self
theorem sB1195 : ∀ w ∈ wB1195, w ∈ wA0 := fun w h => sB1194 w (List.mem_cons_of_mem _ h)
theorem mB1195 : Cond.static yL_isSound ∈ wA0 := sB1195 _ List.mem_cons_self
theorem sB1196 : ∀ w ∈ wB1196, w ∈ wA0 := fun w h => sB1195 w (List.mem_cons_of_mem _ h)
theorem mB1196 : Cond.methodLink RL 209 yX7_isSound ∈ wA0 := sB1196 _ List.mem_cons_self
theorem sB1197 : ∀ w ∈ wB1197, w ∈ wA0 := fun w h => sB1196 w (List.mem_cons_of_mem _ h)
theorem mB1197 : Cond.instanceMethod yX7_isSound ∈ wA0 := sB1197 _ List.mem_cons_self
theorem sB1198 : ∀ w ∈ wB1198, w ∈ wA0 := fun w h => sB1197 w (List.mem_cons_of_mem _ h)
theorem mB1198 : Cond.selects RX7 yX7_isSound yX7_isSound ∈ wA0 := sB1198 _ List.mem_cons_self
theorem sB1199 : ∀ w ∈ wB1199, w ∈ wA0 := fun w h => sB1198 w (List.mem_cons_of_mem _ h)
theorem mB1199 : Cond.methodLink RL 210 yL_nextTimestamp ∈ wA0 := sB1199 _ List.mem_cons_self
theorem sB1200 : ∀ w ∈ wB1200, w ∈ wA0 := fun w h => sB1199 w (List.mem_cons_of_mem _ h)
theorem mB1200 : Cond.static yL_nextTimestamp ∈ wA0 := sB1200 _ List.mem_cons_self
theorem sB1201 : ∀ w ∈ wB1201, w ∈ wA0 := fun w h => sB1200 w (List.mem_cons_of_mem _ h)
theorem mB1201 : Cond.methodLink RL 212 yX7_nextTimestamp ∈ wA0 := sB1201 _ List.mem_cons_self
theorem sB1202 : ∀ w ∈ wB1202, w ∈ wA0 := fun w h => sB1201 w (List.mem_cons_of_mem _ h)
theorem mB1202 : Cond.instanceMethod yX7_nextTimestamp ∈ wA0 := sB1202 _ List.mem_cons_self
theorem sB1203 : ∀ w ∈ wB1203, w ∈ wA0 := fun w h => sB1202 w (List.mem_cons_of_mem _ h)
theorem mB1203 : Cond.selects RX7 yX7_nextTimestamp yX7_nextTimestamp ∈ wA0 := sB1203 _ List.mem_cons_self
theorem sB1204 : ∀ w ∈ wB1204, w ∈ wA0 := fun w h => sB1203 w (List.mem_cons_of_mem _ h)
theorem mB1204 : Cond.methodLink RL 213 yX6_transactions ∈ wA0 := sB1204 _ List.mem_cons_self
theorem sB1205 : ∀ w ∈ wB1205, w ∈ wA0 := fun w h => sB1204 w (List.mem_cons_of_mem _ h)
theorem mB1205 : Cond.instanceMethod yX6_transactions ∈ wA0 := sB1205 _ List.mem_cons_self
theorem sB1206 : ∀ w ∈ wB1206, w ∈ wA0 := fun w h => sB1205 w (List.mem_cons_of_mem _ h)
theorem mB1206 : Cond.selects RX6 yX6_transactions yX6_transactions ∈ wA0 := sB1206 _ List.mem_cons_self
theorem sB1207 : ∀ w ∈ wB1207, w ∈ wA0 := fun w h => sB1206 w (List.mem_cons_of_mem _ h)
theorem mB1207 : Cond.methodLink RL 216 yX7_transactions ∈ wA0 := sB1207 _ List.mem_cons_self
theorem sB1208 : ∀ w ∈ wB1208, w ∈ wA0 := fun w h => sB1207 w (List.mem_cons_of_mem _ h)
theorem mB1208 : Cond.instanceMethod yX7_transactions ∈ wA0 := sB1208 _ List.mem_cons_self
theorem sB1209 : ∀ w ∈ wB1209, w ∈ wA0 := fun w h => sB1208 w (List.mem_cons_of_mem _ h)
theorem mB1209 : Cond.selects RX7 yX7_transactions yX7_transactions ∈ wA0 := sB1209 _ List.mem_cons_self
theorem sB1210 : ∀ w ∈ wB1210, w ∈ wA0 := fun w h => sB1209 w (List.mem_cons_of_mem _ h)
theorem mB1210 : Cond.methodLink RL 217 yL_state ∈ wA0 := sB1210 _ List.mem_cons_self
theorem sB1211 : ∀ w ∈ wB1211, w ∈ wA0 := fun w h => sB1210 w (List.mem_cons_of_mem _ h)
theorem mB1211 : Cond.static yL_state ∈ wA0 := sB1211 _ List.mem_cons_self
theorem sB1212 : ∀ w ∈ wB1212, w ∈ wA0 := fun w h => sB1211 w (List.mem_cons_of_mem _ h)
theorem mB1212 : Cond.methodLink RL 219 yX7_state ∈ wA0 := sB1212 _ List.mem_cons_self
theorem sB1213 : ∀ w ∈ wB1213, w ∈ wA0 := fun w h => sB1212 w (List.mem_cons_of_mem _ h)
theorem mB1213 : Cond.instanceMethod yX7_state ∈ wA0 := sB1213 _ List.mem_cons_self
theorem sB1214 : ∀ w ∈ wB1214, w ∈ wA0 := fun w h => sB1213 w (List.mem_cons_of_mem _ h)
theorem mB1214 : Cond.selects RX7 yX7_state yX7_state ∈ wA0 := sB1214 _ List.mem_cons_self
theorem sB1215 : ∀ w ∈ wB1215, w ∈ wA0 := fun w h => sB1214 w (List.mem_cons_of_mem _ h)
theorem mB1215 : Cond.methodLink RL 220 yL_timestamp ∈ wA0 := sB1215 _ List.mem_cons_self
theorem sB1216 : ∀ w ∈ wB1216, w ∈ wA0 := fun w h => sB1215 w (List.mem_cons_of_mem _ h)
theorem mB1216 : Cond.static yL_timestamp ∈ wA0 := sB1216 _ List.mem_cons_self
theorem sB1217 : ∀ w ∈ wB1217, w ∈ wA0 := fun w h => sB1216 w (List.mem_cons_of_mem _ h)
theorem mB1217 : Cond.methodLink RL 222 yX7_timestamp ∈ wA0 := sB1217 _ List.mem_cons_self
theorem sB1218 : ∀ w ∈ wB1218, w ∈ wA0 := fun w h => sB1217 w (List.mem_cons_of_mem _ h)
theorem mB1218 : Cond.instanceMethod yX7_timestamp ∈ wA0 := sB1218 _ List.mem_cons_self
theorem sB1219 : ∀ w ∈ wB1219, w ∈ wA0 := fun w h => sB1218 w (List.mem_cons_of_mem _ h)
theorem mB1219 : Cond.selects RX7 yX7_timestamp yX7_timestamp ∈ wA0 := sB1219 _ List.mem_cons_self
theorem sB1220 : ∀ w ∈ wB1220, w ∈ wA0 := fun w h => sB1219 w (List.mem_cons_of_mem _ h)
theorem mB1220 : Cond.methodLink RL 223 yL_requestTime ∈ wA0 := sB1220 _ List.mem_cons_self
theorem sB1221 : ∀ w ∈ wB1221, w ∈ wA0 := fun w h => sB1220 w (List.mem_cons_of_mem _ h)
theorem mB1221 : Cond.static yL_requestTime ∈ wA0 := sB1221 _ List.mem_cons_self
theorem sB1222 : ∀ w ∈ wB1222, w ∈ wA0 := fun w h => sB1221 w (List.mem_cons_of_mem _ h)
theorem mB1222 : Cond.methodLink RL 225 yX7_requestTime ∈ wA0 := sB1222 _ List.mem_cons_self
theorem sB1223 : ∀ w ∈ wB1223, w ∈ wA0 := fun w h => sB1222 w (List.mem_cons_of_mem _ h)
theorem mB1223 : Cond.instanceMethod yX7_requestTime ∈ wA0 := sB1223 _ List.mem_cons_self
theorem sB1224 : ∀ w ∈ wB1224, w ∈ wA0 := fun w h => sB1223 w (List.mem_cons_of_mem _ h)
theorem mB1224 : Cond.selects RX7 yX7_requestTime yX7_requestTime ∈ wA0 := sB1224 _ List.mem_cons_self
theorem sB1225 : ∀ w ∈ wB1225, w ∈ wA0 := fun w h => sB1224 w (List.mem_cons_of_mem _ h)
theorem mB1225 : Cond.methodLink RL 226 yL_commitTime ∈ wA0 := sB1225 _ List.mem_cons_self
theorem sB1226 : ∀ w ∈ wB1226, w ∈ wA0 := fun w h => sB1225 w (List.mem_cons_of_mem _ h)
theorem mB1226 : Cond.static yL_commitTime ∈ wA0 := sB1226 _ List.mem_cons_self
theorem sB1227 : ∀ w ∈ wB1227, w ∈ wA0 := fun w h => sB1226 w (List.mem_cons_of_mem _ h)
theorem mB1227 : Cond.methodLink RL 228 yX7_commitTime ∈ wA0 := sB1227 _ List.mem_cons_self
theorem sB1228 : ∀ w ∈ wB1228, w ∈ wA0 := fun w h => sB1227 w (List.mem_cons_of_mem _ h)
theorem mB1228 : Cond.instanceMethod yX7_commitTime ∈ wA0 := sB1228 _ List.mem_cons_self
theorem sB1229 : ∀ w ∈ wB1229, w ∈ wA0 := fun w h => sB1228 w (List.mem_cons_of_mem _ h)
theorem mB1229 : Cond.selects RX7 yX7_commitTime yX7_commitTime ∈ wA0 := sB1229 _ List.mem_cons_self
theorem sB1230 : ∀ w ∈ wB1230, w ∈ wA0 := fun w h => sB1229 w (List.mem_cons_of_mem _ h)
theorem mB1230 : Cond.methodLink RL 229 yL_bufferedValue ∈ wA0 := sB1230 _ List.mem_cons_self
theorem sB1231 : ∀ w ∈ wB1231, w ∈ wA0 := fun w h => sB1230 w (List.mem_cons_of_mem _ h)
theorem mB1231 : Cond.static yL_bufferedValue ∈ wA0 := sB1231 _ List.mem_cons_self
theorem sB1232 : ∀ w ∈ wB1232, w ∈ wA0 := fun w h => sB1231 w (List.mem_cons_of_mem _ h)
theorem mB1232 : Cond.methodLink RL 231 yX7_bufferedValue ∈ wA0 := sB1232 _ List.mem_cons_self
theorem sB1233 : ∀ w ∈ wB1233, w ∈ wA0 := fun w h => sB1232 w (List.mem_cons_of_mem _ h)
theorem mB1233 : Cond.instanceMethod yX7_bufferedValue ∈ wA0 := sB1233 _ List.mem_cons_self
theorem sB1234 : ∀ w ∈ wB1234, w ∈ wA0 := fun w h => sB1233 w (List.mem_cons_of_mem _ h)
theorem mB1234 : Cond.selects RX7 yX7_bufferedValue yX7_bufferedValue ∈ wA0 := sB1234 _ List.mem_cons_self
theorem sB1235 : ∀ w ∈ wB1235, w ∈ wA0 := fun w h => sB1234 w (List.mem_cons_of_mem _ h)
theorem mB1235 : Cond.methodLink RL 232 yL_recordedTimestamp ∈ wA0 := sB1235 _ List.mem_cons_self
theorem sB1236 : ∀ w ∈ wB1236, w ∈ wA0 := fun w h => sB1235 w (List.mem_cons_of_mem _ h)
theorem mB1236 : Cond.static yL_recordedTimestamp ∈ wA0 := sB1236 _ List.mem_cons_self
theorem sB1237 : ∀ w ∈ wB1237, w ∈ wA0 := fun w h => sB1236 w (List.mem_cons_of_mem _ h)
theorem mB1237 : Cond.methodLink RL 234 yX7_recordedTimestamp ∈ wA0 := sB1237 _ List.mem_cons_self
theorem sB1238 : ∀ w ∈ wB1238, w ∈ wA0 := fun w h => sB1237 w (List.mem_cons_of_mem _ h)
theorem mB1238 : Cond.instanceMethod yX7_recordedTimestamp ∈ wA0 := sB1238 _ List.mem_cons_self
theorem sB1239 : ∀ w ∈ wB1239, w ∈ wA0 := fun w h => sB1238 w (List.mem_cons_of_mem _ h)
theorem mB1239 : Cond.selects RX7 yX7_recordedTimestamp yX7_recordedTimestamp ∈ wA0 := sB1239 _ List.mem_cons_self
theorem sB1240 : ∀ w ∈ wB1240, w ∈ wA0 := fun w h => sB1239 w (List.mem_cons_of_mem _ h)
theorem mB1240 : Cond.methodLink RL 235 yL_ifCommitted ∈ wA0 := sB1240 _ List.mem_cons_self
theorem sB1241 : ∀ w ∈ wB1241, w ∈ wA0 := fun w h => sB1240 w (List.mem_cons_of_mem _ h)
theorem mB1241 : Cond.static yL_ifCommitted ∈ wA0 := sB1241 _ List.mem_cons_self
theorem sB1242 : ∀ w ∈ wB1242, w ∈ wA0 := fun w h => sB1241 w (List.mem_cons_of_mem _ h)
theorem mB1242 : Cond.methodLink RL 237 yX7_ifCommitted ∈ wA0 := sB1242 _ List.mem_cons_self
theorem sB1243 : ∀ w ∈ wB1243, w ∈ wA0 := fun w h => sB1242 w (List.mem_cons_of_mem _ h)
theorem mB1243 : Cond.instanceMethod yX7_ifCommitted ∈ wA0 := sB1243 _ List.mem_cons_self
theorem sB1244 : ∀ w ∈ wB1244, w ∈ wA0 := fun w h => sB1243 w (List.mem_cons_of_mem _ h)
theorem mB1244 : Cond.selects RX7 yX7_ifCommitted yX7_ifCommitted ∈ wA0 := sB1244 _ List.mem_cons_self
theorem sB1245 : ∀ w ∈ wB1245, w ∈ wA0 := fun w h => sB1244 w (List.mem_cons_of_mem _ h)
theorem mB1245 : Cond.methodLink RL 238 yL_ticksToCommit ∈ wA0 := sB1245 _ List.mem_cons_self
theorem sB1246 : ∀ w ∈ wB1246, w ∈ wA0 := fun w h => sB1245 w (List.mem_cons_of_mem _ h)
theorem mB1246 : Cond.static yL_ticksToCommit ∈ wA0 := sB1246 _ List.mem_cons_self
theorem sB1247 : ∀ w ∈ wB1247, w ∈ wA0 := fun w h => sB1246 w (List.mem_cons_of_mem _ h)
theorem mB1247 : Cond.methodLink RL 240 yX7_ticksToCommit ∈ wA0 := sB1247 _ List.mem_cons_self
theorem sB1248 : ∀ w ∈ wB1248, w ∈ wA0 := fun w h => sB1247 w (List.mem_cons_of_mem _ h)
theorem mB1248 : Cond.instanceMethod yX7_ticksToCommit ∈ wA0 := sB1248 _ List.mem_cons_self
theorem sB1249 : ∀ w ∈ wB1249, w ∈ wA0 := fun w h => sB1248 w (List.mem_cons_of_mem _ h)
theorem mB1249 : Cond.selects RX7 yX7_ticksToCommit yX7_ticksToCommit ∈ wA0 := sB1249 _ List.mem_cons_self
theorem sB1250 : ∀ w ∈ wB1250, w ∈ wA0 := fun w h => sB1249 w (List.mem_cons_of_mem _ h)
theorem mB1250 : Cond.methodLink RL 241 yL_versions ∈ wA0 := sB1250 _ List.mem_cons_self
theorem sB1251 : ∀ w ∈ wB1251, w ∈ wA0 := fun w h => sB1250 w (List.mem_cons_of_mem _ h)
theorem mB1251 : Cond.static yL_versions ∈ wA0 := sB1251 _ List.mem_cons_self
theorem sB1252 : ∀ w ∈ wB1252, w ∈ wA0 := fun w h => sB1251 w (List.mem_cons_of_mem _ h)
theorem mB1252 : Cond.methodLink RL 243 yX7_versions ∈ wA0 := sB1252 _ List.mem_cons_self
theorem sB1253 : ∀ w ∈ wB1253, w ∈ wA0 := fun w h => sB1252 w (List.mem_cons_of_mem _ h)
theorem mB1253 : Cond.instanceMethod yX7_versions ∈ wA0 := sB1253 _ List.mem_cons_self
theorem sB1254 : ∀ w ∈ wB1254, w ∈ wA0 := fun w h => sB1253 w (List.mem_cons_of_mem _ h)
theorem mB1254 : Cond.selects RX7 yX7_versions yX7_versions ∈ wA0 := sB1254 _ List.mem_cons_self
theorem sB1255 : ∀ w ∈ wB1255, w ∈ wA0 := fun w h => sB1254 w (List.mem_cons_of_mem _ h)
theorem mB1255 : Cond.methodLink RL 244 yL_versionTimestamp ∈ wA0 := sB1255 _ List.mem_cons_self
theorem sB1256 : ∀ w ∈ wB1256, w ∈ wA0 := fun w h => sB1255 w (List.mem_cons_of_mem _ h)
theorem mB1256 : Cond.static yL_versionTimestamp ∈ wA0 := sB1256 _ List.mem_cons_self
theorem sB1257 : ∀ w ∈ wB1257, w ∈ wA0 := fun w h => sB1256 w (List.mem_cons_of_mem _ h)
theorem mB1257 : Cond.methodLink RL 246 yX7_versionTimestamp ∈ wA0 := sB1257 _ List.mem_cons_self
theorem sB1258 : ∀ w ∈ wB1258, w ∈ wA0 := fun w h => sB1257 w (List.mem_cons_of_mem _ h)
theorem mB1258 : Cond.instanceMethod yX7_versionTimestamp ∈ wA0 := sB1258 _ List.mem_cons_self
theorem sB1259 : ∀ w ∈ wB1259, w ∈ wA0 := fun w h => sB1258 w (List.mem_cons_of_mem _ h)
theorem mB1259 : Cond.selects RX7 yX7_versionTimestamp yX7_versionTimestamp ∈ wA0 := sB1259 _ List.mem_cons_self
theorem sB1260 : ∀ w ∈ wB1260, w ∈ wA0 := fun w h => sB1259 w (List.mem_cons_of_mem _ h)
theorem mB1260 : Cond.methodLink RL 247 yL_valueAt ∈ wA0 := sB1260 _ List.mem_cons_self
theorem sB1261 : ∀ w ∈ wB1261, w ∈ wA0 := fun w h => sB1260 w (List.mem_cons_of_mem _ h)
theorem mB1261 : Cond.static yL_valueAt ∈ wA0 := sB1261 _ List.mem_cons_self
theorem sB1262 : ∀ w ∈ wB1262, w ∈ wA0 := fun w h => sB1261 w (List.mem_cons_of_mem _ h)
theorem mB1262 : Cond.methodLink RL 249 yX7_valueAt ∈ wA0 := sB1262 _ List.mem_cons_self
theorem sB1263 : ∀ w ∈ wB1263, w ∈ wA0 := fun w h => sB1262 w (List.mem_cons_of_mem _ h)
theorem mB1263 : Cond.instanceMethod yX7_valueAt ∈ wA0 := sB1263 _ List.mem_cons_self
theorem sB1264 : ∀ w ∈ wB1264, w ∈ wA0 := fun w h => sB1263 w (List.mem_cons_of_mem _ h)
theorem mB1264 : Cond.selects RX7 yX7_valueAt yX7_valueAt ∈ wA0 := sB1264 _ List.mem_cons_self
theorem sB1265 : ∀ w ∈ wB1265, w ∈ wA0 := fun w h => sB1264 w (List.mem_cons_of_mem _ h)
theorem mB1265 : Cond.methodLink RL 250 yL_replayedValueAt ∈ wA0 := sB1265 _ List.mem_cons_self
theorem sB1266 : ∀ w ∈ wB1266, w ∈ wA0 := fun w h => sB1265 w (List.mem_cons_of_mem _ h)
theorem mB1266 : Cond.static yL_replayedValueAt ∈ wA0 := sB1266 _ List.mem_cons_self
theorem sB1267 : ∀ w ∈ wB1267, w ∈ wA0 := fun w h => sB1266 w (List.mem_cons_of_mem _ h)
theorem mB1267 : Cond.methodLink RL 252 yX7_replayedValueAt ∈ wA0 := sB1267 _ List.mem_cons_self
theorem sB1268 : ∀ w ∈ wB1268, w ∈ wA0 := fun w h => sB1267 w (List.mem_cons_of_mem _ h)
theorem mB1268 : Cond.instanceMethod yX7_replayedValueAt ∈ wA0 := sB1268 _ List.mem_cons_self
theorem sB1269 : ∀ w ∈ wB1269, w ∈ wA0 := fun w h => sB1268 w (List.mem_cons_of_mem _ h)
theorem mB1269 : Cond.selects RX7 yX7_replayedValueAt yX7_replayedValueAt ∈ wA0 := sB1269 _ List.mem_cons_self
theorem sB1270 : ∀ w ∈ wB1270, w ∈ wA0 := fun w h => sB1269 w (List.mem_cons_of_mem _ h)
theorem mB1270 : Cond.methodLink RL 253 yL_waitingWriter ∈ wA0 := sB1270 _ List.mem_cons_self
theorem sB1271 : ∀ w ∈ wB1271, w ∈ wA0 := fun w h => sB1270 w (List.mem_cons_of_mem _ h)
theorem mB1271 : Cond.static yL_waitingWriter ∈ wA0 := sB1271 _ List.mem_cons_self
theorem sB1272 : ∀ w ∈ wB1272, w ∈ wA0 := fun w h => sB1271 w (List.mem_cons_of_mem _ h)
theorem mB1272 : Cond.methodLink RL 255 yX7_waitingWriter ∈ wA0 := sB1272 _ List.mem_cons_self
theorem sB1273 : ∀ w ∈ wB1273, w ∈ wA0 := fun w h => sB1272 w (List.mem_cons_of_mem _ h)
theorem mB1273 : Cond.instanceMethod yX7_waitingWriter ∈ wA0 := sB1273 _ List.mem_cons_self
theorem sB1274 : ∀ w ∈ wB1274, w ∈ wA0 := fun w h => sB1273 w (List.mem_cons_of_mem _ h)
theorem mB1274 : Cond.selects RX7 yX7_waitingWriter yX7_waitingWriter ∈ wA0 := sB1274 _ List.mem_cons_self
theorem sB1275 : ∀ w ∈ wB1275, w ∈ wA0 := fun w h => sB1274 w (List.mem_cons_of_mem _ h)
theorem mB1275 : Cond.methodLink RL 256 yL_readerMark ∈ wA0 := sB1275 _ List.mem_cons_self
theorem sB1276 : ∀ w ∈ wB1276, w ∈ wA0 := fun w h => sB1275 w (List.mem_cons_of_mem _ h)
theorem mB1276 : Cond.static yL_readerMark ∈ wA0 := sB1276 _ List.mem_cons_self
theorem sB1277 : ∀ w ∈ wB1277, w ∈ wA0 := fun w h => sB1276 w (List.mem_cons_of_mem _ h)
theorem mB1277 : Cond.methodLink RL 258 yX7_readerMark ∈ wA0 := sB1277 _ List.mem_cons_self
theorem sB1278 : ∀ w ∈ wB1278, w ∈ wA0 := fun w h => sB1277 w (List.mem_cons_of_mem _ h)
theorem mB1278 : Cond.instanceMethod yX7_readerMark ∈ wA0 := sB1278 _ List.mem_cons_self
theorem sB1279 : ∀ w ∈ wB1279, w ∈ wA0 := fun w h => sB1278 w (List.mem_cons_of_mem _ h)
theorem mB1279 : Cond.selects RX7 yX7_readerMark yX7_readerMark ∈ wA0 := sB1279 _ List.mem_cons_self
theorem sB1280 : ∀ w ∈ wB1280, w ∈ wA0 := fun w h => sB1279 w (List.mem_cons_of_mem _ h)
theorem mB1280 : Cond.methodLink RL 259 yX6_safeTime ∈ wA0 := sB1280 _ List.mem_cons_self
theorem sB1281 : ∀ w ∈ wB1281, w ∈ wA0 := fun w h => sB1280 w (List.mem_cons_of_mem _ h)
theorem mB1281 : Cond.instanceMethod yX6_safeTime ∈ wA0 := sB1281 _ List.mem_cons_self
theorem sB1282 : ∀ w ∈ wB1282, w ∈ wA0 := fun w h => sB1281 w (List.mem_cons_of_mem _ h)
theorem mB1282 : Cond.selects RX6 yX6_safeTime yX6_safeTime ∈ wA0 := sB1282 _ List.mem_cons_self
theorem sB1283 : ∀ w ∈ wB1283, w ∈ wA0 := fun w h => sB1282 w (List.mem_cons_of_mem _ h)
theorem mB1283 : Cond.methodLink RL 262 yX7_safeTime ∈ wA0 := sB1283 _ List.mem_cons_self
theorem sB1284 : ∀ w ∈ wB1284, w ∈ wA0 := fun w h => sB1283 w (List.mem_cons_of_mem _ h)
theorem mB1284 : Cond.instanceMethod yX7_safeTime ∈ wA0 := sB1284 _ List.mem_cons_self
theorem sB1285 : ∀ w ∈ wB1285, w ∈ wA0 := fun w h => sB1284 w (List.mem_cons_of_mem _ h)
theorem mB1285 : Cond.selects RX7 yX7_safeTime yX7_safeTime ∈ wA0 := sB1285 _ List.mem_cons_self
theorem sB1286 : ∀ w ∈ wB1286, w ∈ wA0 := fun w h => sB1285 w (List.mem_cons_of_mem _ h)
theorem mB1286 : Cond.methodLink RL 263 yX6_readFloor ∈ wA0 := sB1286 _ List.mem_cons_self
theorem sB1287 : ∀ w ∈ wB1287, w ∈ wA0 := fun w h => sB1286 w (List.mem_cons_of_mem _ h)
theorem mB1287 : Cond.instanceMethod yX6_readFloor ∈ wA0 := sB1287 _ List.mem_cons_self
theorem sB1288 : ∀ w ∈ wB1288, w ∈ wA0 := fun w h => sB1287 w (List.mem_cons_of_mem _ h)
theorem mB1288 : Cond.selects RX6 yX6_readFloor yX6_readFloor ∈ wA0 := sB1288 _ List.mem_cons_self
theorem sB1289 : ∀ w ∈ wB1289, w ∈ wA0 := fun w h => sB1288 w (List.mem_cons_of_mem _ h)
theorem mB1289 : Cond.methodLink RL 266 yX7_readFloor ∈ wA0 := sB1289 _ List.mem_cons_self
theorem sB1290 : ∀ w ∈ wB1290, w ∈ wA0 := fun w h => sB1289 w (List.mem_cons_of_mem _ h)
theorem mB1290 : Cond.instanceMethod yX7_readFloor ∈ wA0 := sB1290 _ List.mem_cons_self
theorem sB1291 : ∀ w ∈ wB1291, w ∈ wA0 := fun w h => sB1290 w (List.mem_cons_of_mem _ h)
theorem mB1291 : Cond.selects RX7 yX7_readFloor yX7_readFloor ∈ wA0 := sB1291 _ List.mem_cons_self
theorem sB1292 : ∀ w ∈ wB1292, w ∈ wA0 := fun w h => sB1291 w (List.mem_cons_of_mem _ h)
theorem mB1292 : Cond.methodLink RL 267 yL_ticksUntilSafe ∈ wA0 := sB1292 _ List.mem_cons_self
theorem sB1293 : ∀ w ∈ wB1293, w ∈ wA0 := fun w h => sB1292 w (List.mem_cons_of_mem _ h)
theorem mB1293 : Cond.static yL_ticksUntilSafe ∈ wA0 := sB1293 _ List.mem_cons_self
theorem sB1294 : ∀ w ∈ wB1294, w ∈ wA0 := fun w h => sB1293 w (List.mem_cons_of_mem _ h)
theorem mB1294 : Cond.methodLink RL 269 yX7_ticksUntilSafe ∈ wA0 := sB1294 _ List.mem_cons_self
theorem sB1295 : ∀ w ∈ wB1295, w ∈ wA0 := fun w h => sB1294 w (List.mem_cons_of_mem _ h)
theorem mB1295 : Cond.instanceMethod yX7_ticksUntilSafe ∈ wA0 := sB1295 _ List.mem_cons_self
theorem sB1296 : ∀ w ∈ wB1296, w ∈ wA0 := fun w h => sB1295 w (List.mem_cons_of_mem _ h)
theorem mB1296 : Cond.selects RX7 yX7_ticksUntilSafe yX7_ticksUntilSafe ∈ wA0 := sB1296 _ List.mem_cons_self
theorem sB1297 : ∀ w ∈ wB1297, w ∈ wA0 := fun w h => sB1296 w (List.mem_cons_of_mem _ h)
theorem mB1297 : Cond.methodLink RL 270 yL_countInState ∈ wA0 := sB1297 _ List.mem_cons_self
theorem sB1298 : ∀ w ∈ wB1298, w ∈ wA0 := fun w h => sB1297 w (List.mem_cons_of_mem _ h)
theorem mB1298 : Cond.static yL_countInState ∈ wA0 := sB1298 _ List.mem_cons_self
theorem sB1299 : ∀ w ∈ wB1299, w ∈ wA0 := fun w h => sB1298 w (List.mem_cons_of_mem _ h)
theorem mB1299 : Cond.methodLink RL 272 yX7_countInState ∈ wA0 := sB1299 _ List.mem_cons_self
theorem sB1300 : ∀ w ∈ wB1300, w ∈ wA0 := fun w h => sB1299 w (List.mem_cons_of_mem _ h)
theorem mB1300 : Cond.instanceMethod yX7_countInState ∈ wA0 := sB1300 _ List.mem_cons_self
theorem sB1301 : ∀ w ∈ wB1301, w ∈ wA0 := fun w h => sB1300 w (List.mem_cons_of_mem _ h)
theorem mB1301 : Cond.selects RX7 yX7_countInState yX7_countInState ∈ wA0 := sB1301 _ List.mem_cons_self
theorem sB1302 : ∀ w ∈ wB1302, w ∈ wA0 := fun w h => sB1301 w (List.mem_cons_of_mem _ h)
theorem mB1302 : Cond.methodLink RL 273 yX6_totalWait ∈ wA0 := sB1302 _ List.mem_cons_self
theorem sB1303 : ∀ w ∈ wB1303, w ∈ wA0 := fun w h => sB1302 w (List.mem_cons_of_mem _ h)
theorem mB1303 : Cond.instanceMethod yX6_totalWait ∈ wA0 := sB1303 _ List.mem_cons_self
theorem sB1304 : ∀ w ∈ wB1304, w ∈ wA0 := fun w h => sB1303 w (List.mem_cons_of_mem _ h)
theorem mB1304 : Cond.selects RX6 yX6_totalWait yX6_totalWait ∈ wA0 := sB1304 _ List.mem_cons_self
theorem sB1305 : ∀ w ∈ wB1305, w ∈ wA0 := fun w h => sB1304 w (List.mem_cons_of_mem _ h)
theorem mB1305 : Cond.methodLink RL 276 yX7_totalWait ∈ wA0 := sB1305 _ List.mem_cons_self
theorem sB1306 : ∀ w ∈ wB1306, w ∈ wA0 := fun w h => sB1305 w (List.mem_cons_of_mem _ h)
theorem mB1306 : Cond.instanceMethod yX7_totalWait ∈ wA0 := sB1306 _ List.mem_cons_self
theorem sB1307 : ∀ w ∈ wB1307, w ∈ wA0 := fun w h => sB1306 w (List.mem_cons_of_mem _ h)
theorem mB1307 : Cond.selects RX7 yX7_totalWait yX7_totalWait ∈ wA0 := sB1307 _ List.mem_cons_self
theorem sB1308 : ∀ w ∈ wB1308, w ∈ wA0 := fun w h => sB1307 w (List.mem_cons_of_mem _ h)
theorem mB1308 : Cond.methodLink RL 277 yX6_unsoundUses ∈ wA0 := sB1308 _ List.mem_cons_self
theorem sB1309 : ∀ w ∈ wB1309, w ∈ wA0 := fun w h => sB1308 w (List.mem_cons_of_mem _ h)
theorem mB1309 : Cond.instanceMethod yX6_unsoundUses ∈ wA0 := sB1309 _ List.mem_cons_self
theorem sB1310 : ∀ w ∈ wB1310, w ∈ wA0 := fun w h => sB1309 w (List.mem_cons_of_mem _ h)
theorem mB1310 : Cond.selects RX6 yX6_unsoundUses yX6_unsoundUses ∈ wA0 := sB1310 _ List.mem_cons_self
theorem sB1311 : ∀ w ∈ wB1311, w ∈ wA0 := fun w h => sB1310 w (List.mem_cons_of_mem _ h)
theorem mB1311 : Cond.methodLink RL 280 yX7_unsoundUses ∈ wA0 := sB1311 _ List.mem_cons_self
theorem sB1312 : ∀ w ∈ wB1312, w ∈ wA0 := fun w h => sB1311 w (List.mem_cons_of_mem _ h)
theorem mB1312 : Cond.instanceMethod yX7_unsoundUses ∈ wA0 := sB1312 _ List.mem_cons_self
theorem sB1313 : ∀ w ∈ wB1313, w ∈ wA0 := fun w h => sB1312 w (List.mem_cons_of_mem _ h)
theorem mB1313 : Cond.selects RX7 yX7_unsoundUses yX7_unsoundUses ∈ wA0 := sB1313 _ List.mem_cons_self
theorem sB1314 : ∀ w ∈ wB1314, w ∈ wA0 := fun w h => sB1313 w (List.mem_cons_of_mem _ h)
theorem mB1314 : Cond.methodLink RL 281 yX6_inversions ∈ wA0 := sB1314 _ List.mem_cons_self
theorem sB1315 : ∀ w ∈ wB1315, w ∈ wA0 := fun w h => sB1314 w (List.mem_cons_of_mem _ h)
theorem mB1315 : Cond.instanceMethod yX6_inversions ∈ wA0 := sB1315 _ List.mem_cons_self
theorem sB1316 : ∀ w ∈ wB1316, w ∈ wA0 := fun w h => sB1315 w (List.mem_cons_of_mem _ h)
theorem mB1316 : Cond.selects RX6 yX6_inversions yX6_inversions ∈ wA0 := sB1316 _ List.mem_cons_self
theorem sB1317 : ∀ w ∈ wB1317, w ∈ wA0 := fun w h => sB1316 w (List.mem_cons_of_mem _ h)
theorem mB1317 : Cond.methodLink RL 284 yX7_inversions ∈ wA0 := sB1317 _ List.mem_cons_self
theorem sB1318 : ∀ w ∈ wB1318, w ∈ wA0 := fun w h => sB1317 w (List.mem_cons_of_mem _ h)
theorem mB1318 : Cond.instanceMethod yX7_inversions ∈ wA0 := sB1318 _ List.mem_cons_self
theorem sB1319 : ∀ w ∈ wB1319, w ∈ wA0 := fun w h => sB1318 w (List.mem_cons_of_mem _ h)
theorem mB1319 : Cond.selects RX7 yX7_inversions yX7_inversions ∈ wA0 := sB1319 _ List.mem_cons_self
theorem sB1320 : ∀ w ∈ wB1320, w ∈ wA0 := fun w h => sB1319 w (List.mem_cons_of_mem _ h)
theorem mB1320 : Cond.methodLink RL 285 yX6_savedStates ∈ wA0 := sB1320 _ List.mem_cons_self
theorem sB1321 : ∀ w ∈ wB1321, w ∈ wA0 := fun w h => sB1320 w (List.mem_cons_of_mem _ h)
theorem mB1321 : Cond.instanceMethod yX6_savedStates ∈ wA0 := sB1321 _ List.mem_cons_self
theorem sB1322 : ∀ w ∈ wB1322, w ∈ wA0 := fun w h => sB1321 w (List.mem_cons_of_mem _ h)
theorem mB1322 : Cond.selects RX6 yX6_savedStates yX6_savedStates ∈ wA0 := sB1322 _ List.mem_cons_self
theorem sB1323 : ∀ w ∈ wB1323, w ∈ wA0 := fun w h => sB1322 w (List.mem_cons_of_mem _ h)
theorem mB1323 : Cond.methodLink RL 288 yX7_savedStates ∈ wA0 := sB1323 _ List.mem_cons_self
theorem sB1324 : ∀ w ∈ wB1324, w ∈ wA0 := fun w h => sB1323 w (List.mem_cons_of_mem _ h)
theorem mB1324 : Cond.instanceMethod yX7_savedStates ∈ wA0 := sB1324 _ List.mem_cons_self
theorem sB1325 : ∀ w ∈ wB1325, w ∈ wA0 := fun w h => sB1324 w (List.mem_cons_of_mem _ h)
theorem mB1325 : Cond.selects RX7 yX7_savedStates yX7_savedStates ∈ wA0 := sB1325 _ List.mem_cons_self
theorem sB1326 : ∀ w ∈ wB1326, w ∈ wA0 := fun w h => sB1325 w (List.mem_cons_of_mem _ h)
theorem mB1326 : Cond.methodLink RL 289 yX6_textLength ∈ wA0 := sB1326 _ List.mem_cons_self
theorem sB1327 : ∀ w ∈ wB1327, w ∈ wA0 := fun w h => sB1326 w (List.mem_cons_of_mem _ h)
theorem mB1327 : Cond.instanceMethod yX6_textLength ∈ wA0 := sB1327 _ List.mem_cons_self
theorem sB1328 : ∀ w ∈ wB1328, w ∈ wA0 := fun w h => sB1327 w (List.mem_cons_of_mem _ h)
theorem mB1328 : Cond.selects RX6 yX6_textLength yX6_textLength ∈ wA0 := sB1328 _ List.mem_cons_self
theorem sB1329 : ∀ w ∈ wB1329, w ∈ wA0 := fun w h => sB1328 w (List.mem_cons_of_mem _ h)
theorem mB1329 : Cond.methodLink RL 292 yX7_textLength ∈ wA0 := sB1329 _ List.mem_cons_self
theorem sB1330 : ∀ w ∈ wB1330, w ∈ wA0 := fun w h => sB1329 w (List.mem_cons_of_mem _ h)
theorem mB1330 : Cond.instanceMethod yX7_textLength ∈ wA0 := sB1330 _ List.mem_cons_self
theorem sB1331 : ∀ w ∈ wB1331, w ∈ wA0 := fun w h => sB1330 w (List.mem_cons_of_mem _ h)
theorem mB1331 : Cond.selects RX7 yX7_textLength yX7_textLength ∈ wA0 := sB1331 _ List.mem_cons_self
theorem sB1332 : ∀ w ∈ wB1332, w ∈ wA0 := fun w h => sB1331 w (List.mem_cons_of_mem _ h)
theorem oB1332 : ∀ w ∈ wB1332, goodWord w = true := fun _ h => absurd h List.not_mem_nil
theorem oB1331 : ∀ w ∈ wB1331, goodWord w = true := List.forall_mem_cons.mpr ⟨rfl, oB1332⟩
theorem oB1330 : ∀ w ∈ wB1330, goodWord w = true := List.forall_mem_cons.mpr ⟨rfl, oB1331⟩
theorem oB1329 : ∀ w ∈ wB1329, goodWord w = true := List.forall_mem_cons.mpr ⟨rfl, oB1330⟩
theorem oB1328 : ∀ w ∈ wB1328, goodWord w = true := List.forall_mem_cons.mpr ⟨rfl, oB1329⟩
theorem oB1327 : ∀ w ∈ wB1327, goodWord w = true := List.forall_mem_cons.mpr ⟨rfl, oB1328⟩
theorem oB1326 : ∀ w ∈ wB1326, goodWord w = true := List.forall_mem_cons.mpr ⟨rfl, oB1327⟩
theorem oB1325 : ∀ w ∈ wB1325, goodWord w = true := List.forall_mem_cons.mpr ⟨rfl, oB1326⟩
theorem oB1324 : ∀ w ∈ wB1324, goodWord w = true := List.forall_mem_cons.mpr ⟨rfl, oB1325⟩
theorem oB1323 : ∀ w ∈ wB1323, goodWord w = true := List.forall_mem_cons.mpr ⟨rfl, oB1324⟩
theorem oB1322 : ∀ w ∈ wB1322, goodWord w = true := List.forall_mem_cons.mpr ⟨rfl, oB1323⟩
theorem oB1321 : ∀ w ∈ wB1321, goodWord w = true := List.forall_mem_cons.mpr ⟨rfl, oB1322⟩
theorem oB1320 : ∀ w ∈ wB1320, goodWord w = true := List.forall_mem_cons.mpr ⟨rfl, oB1321⟩
theorem oB1319 : ∀ w ∈ wB1319, goodWord w = true := List.forall_mem_cons.mpr ⟨rfl, oB1320⟩
theorem oB1318 : ∀ w ∈ wB1318, goodWord w = true := List.forall_mem_cons.mpr ⟨rfl, oB1319⟩
theorem oB1317 : ∀ w ∈ wB1317, goodWord w = true := List.forall_mem_cons.mpr ⟨rfl, oB1318⟩
theorem oB1316 : ∀ w ∈ wB1316, goodWord w = true := List.forall_mem_cons.mpr ⟨rfl, oB1317⟩
theorem oB1315 : ∀ w ∈ wB1315, goodWord w = true := List.forall_mem_cons.mpr ⟨rfl, oB1316⟩
theorem oB1314 : ∀ w ∈ wB1314, goodWord w = true := List.forall_mem_cons.mpr ⟨rfl, oB1315⟩
theorem oB1313 : ∀ w ∈ wB1313, goodWord w = true := List.forall_mem_cons.mpr ⟨rfl, oB1314⟩
theorem oB1312 : ∀ w ∈ wB1312, goodWord w = true := List.forall_mem_cons.mpr ⟨rfl, oB1313⟩
theorem oB1311 : ∀ w ∈ wB1311, goodWord w = true := List.forall_mem_cons.mpr ⟨rfl, oB1312⟩
theorem oB1310 : ∀ w ∈ wB1310, goodWord w = true := List.forall_mem_cons.mpr ⟨rfl, oB1311⟩
theorem oB1309 : ∀ w ∈ wB1309, goodWord w = true := List.forall_mem_cons.mpr ⟨rfl, oB1310⟩
theorem oB1308 : ∀ w ∈ wB1308, goodWord w = true := List.forall_mem_cons.mpr ⟨rfl, oB1309⟩
theorem oB1307 : ∀ w ∈ wB1307, goodWord w = true := List.forall_mem_cons.mpr ⟨rfl, oB1308⟩
theorem oB1306 : ∀ w ∈ wB1306, goodWord w = true := List.forall_mem_cons.mpr ⟨rfl, oB1307⟩
theorem oB1305 : ∀ w ∈ wB1305, goodWord w = true := List.forall_mem_cons.mpr ⟨rfl, oB1306⟩
theorem oB1304 : ∀ w ∈ wB1304, goodWord w = true := List.forall_mem_cons.mpr ⟨rfl, oB1305⟩
theorem oB1303 : ∀ w ∈ wB1303, goodWord w = true := List.forall_mem_cons.mpr ⟨rfl, oB1304⟩
theorem oB1302 : ∀ w ∈ wB1302, goodWord w = true := List.forall_mem_cons.mpr ⟨rfl, oB1303⟩
theorem oB1301 : ∀ w ∈ wB1301, goodWord w = true := List.forall_mem_cons.mpr ⟨rfl, oB1302⟩
theorem oB1300 : ∀ w ∈ wB1300, goodWord w = true := List.forall_mem_cons.mpr ⟨rfl, oB1301⟩
theorem oB1299 : ∀ w ∈ wB1299, goodWord w = true := List.forall_mem_cons.mpr ⟨rfl, oB1300⟩
theorem oB1298 : ∀ w ∈ wB1298, goodWord w = true := List.forall_mem_cons.mpr ⟨rfl, oB1299⟩
theorem oB1297 : ∀ w ∈ wB1297, goodWord w = true := List.forall_mem_cons.mpr ⟨rfl, oB1298⟩
theorem oB1296 : ∀ w ∈ wB1296, goodWord w = true := List.forall_mem_cons.mpr ⟨rfl, oB1297⟩
theorem oB1295 : ∀ w ∈ wB1295, goodWord w = true := List.forall_mem_cons.mpr ⟨rfl, oB1296⟩
theorem oB1294 : ∀ w ∈ wB1294, goodWord w = true := List.forall_mem_cons.mpr ⟨rfl, oB1295⟩
theorem oB1293 : ∀ w ∈ wB1293, goodWord w = true := List.forall_mem_cons.mpr ⟨rfl, oB1294⟩
theorem oB1292 : ∀ w ∈ wB1292, goodWord w = true := List.forall_mem_cons.mpr ⟨rfl, oB1293⟩
theorem oB1291 : ∀ w ∈ wB1291, goodWord w = true := List.forall_mem_cons.mpr ⟨rfl, oB1292⟩
theorem oB1290 : ∀ w ∈ wB1290, goodWord w = true := List.forall_mem_cons.mpr ⟨rfl, oB1291⟩
theorem oB1289 : ∀ w ∈ wB1289, goodWord w = true := List.forall_mem_cons.mpr ⟨rfl, oB1290⟩
theorem oB1288 : ∀ w ∈ wB1288, goodWord w = true := List.forall_mem_cons.mpr ⟨rfl, oB1289⟩
theorem oB1287 : ∀ w ∈ wB1287, goodWord w = true := List.forall_mem_cons.mpr ⟨rfl, oB1288⟩
theorem oB1286 : ∀ w ∈ wB1286, goodWord w = true := List.forall_mem_cons.mpr ⟨rfl, oB1287⟩
theorem oB1285 : ∀ w ∈ wB1285, goodWord w = true := List.forall_mem_cons.mpr ⟨rfl, oB1286⟩
theorem oB1284 : ∀ w ∈ wB1284, goodWord w = true := List.forall_mem_cons.mpr ⟨rfl, oB1285⟩
theorem oB1283 : ∀ w ∈ wB1283, goodWord w = true := List.forall_mem_cons.mpr ⟨rfl, oB1284⟩
theorem oB1282 : ∀ w ∈ wB1282, goodWord w = true := List.forall_mem_cons.mpr ⟨rfl, oB1283⟩
theorem oB1281 : ∀ w ∈ wB1281, goodWord w = true := List.forall_mem_cons.mpr ⟨rfl, oB1282⟩
theorem oB1280 : ∀ w ∈ wB1280, goodWord w = true := List.forall_mem_cons.mpr ⟨rfl, oB1281⟩
theorem oB1279 : ∀ w ∈ wB1279, goodWord w = true := List.forall_mem_cons.mpr ⟨rfl, oB1280⟩
theorem oB1278 : ∀ w ∈ wB1278, goodWord w = true := List.forall_mem_cons.mpr ⟨rfl, oB1279⟩
theorem oB1277 : ∀ w ∈ wB1277, goodWord w = true := List.forall_mem_cons.mpr ⟨rfl, oB1278⟩
theorem oB1276 : ∀ w ∈ wB1276, goodWord w = true := List.forall_mem_cons.mpr ⟨rfl, oB1277⟩
theorem oB1275 : ∀ w ∈ wB1275, goodWord w = true := List.forall_mem_cons.mpr ⟨rfl, oB1276⟩
theorem oB1274 : ∀ w ∈ wB1274, goodWord w = true := List.forall_mem_cons.mpr ⟨rfl, oB1275⟩
theorem oB1273 : ∀ w ∈ wB1273, goodWord w = true := List.forall_mem_cons.mpr ⟨rfl, oB1274⟩
theorem oB1272 : ∀ w ∈ wB1272, goodWord w = true := List.forall_mem_cons.mpr ⟨rfl, oB1273⟩
theorem oB1271 : ∀ w ∈ wB1271, goodWord w = true := List.forall_mem_cons.mpr ⟨rfl, oB1272⟩
theorem oB1270 : ∀ w ∈ wB1270, goodWord w = true := List.forall_mem_cons.mpr ⟨rfl, oB1271⟩
theorem oB1269 : ∀ w ∈ wB1269, goodWord w = true := List.forall_mem_cons.mpr ⟨rfl, oB1270⟩
theorem oB1268 : ∀ w ∈ wB1268, goodWord w = true := List.forall_mem_cons.mpr ⟨rfl, oB1269⟩
theorem oB1267 : ∀ w ∈ wB1267, goodWord w = true := List.forall_mem_cons.mpr ⟨rfl, oB1268⟩
theorem oB1266 : ∀ w ∈ wB1266, goodWord w = true := List.forall_mem_cons.mpr ⟨rfl, oB1267⟩
theorem oB1265 : ∀ w ∈ wB1265, goodWord w = true := List.forall_mem_cons.mpr ⟨rfl, oB1266⟩
theorem oB1264 : ∀ w ∈ wB1264, goodWord w = true := List.forall_mem_cons.mpr ⟨rfl, oB1265⟩
theorem oB1263 : ∀ w ∈ wB1263, goodWord w = true := List.forall_mem_cons.mpr ⟨rfl, oB1264⟩
theorem oB1262 : ∀ w ∈ wB1262, goodWord w = true := List.forall_mem_cons.mpr ⟨rfl, oB1263⟩
theorem oB1261 : ∀ w ∈ wB1261, goodWord w = true := List.forall_mem_cons.mpr ⟨rfl, oB1262⟩
theorem oB1260 : ∀ w ∈ wB1260, goodWord w = true := List.forall_mem_cons.mpr ⟨rfl, oB1261⟩
theorem oB1259 : ∀ w ∈ wB1259, goodWord w = true := List.forall_mem_cons.mpr ⟨rfl, oB1260⟩
theorem oB1258 : ∀ w ∈ wB1258, goodWord w = true := List.forall_mem_cons.mpr ⟨rfl, oB1259⟩
theorem oB1257 : ∀ w ∈ wB1257, goodWord w = true := List.forall_mem_cons.mpr ⟨rfl, oB1258⟩
theorem oB1256 : ∀ w ∈ wB1256, goodWord w = true := List.forall_mem_cons.mpr ⟨rfl, oB1257⟩
theorem oB1255 : ∀ w ∈ wB1255, goodWord w = true := List.forall_mem_cons.mpr ⟨rfl, oB1256⟩
theorem oB1254 : ∀ w ∈ wB1254, goodWord w = true := List.forall_mem_cons.mpr ⟨rfl, oB1255⟩
theorem oB1253 : ∀ w ∈ wB1253, goodWord w = true := List.forall_mem_cons.mpr ⟨rfl, oB1254⟩
theorem oB1252 : ∀ w ∈ wB1252, goodWord w = true := List.forall_mem_cons.mpr ⟨rfl, oB1253⟩
theorem oB1251 : ∀ w ∈ wB1251, goodWord w = true := List.forall_mem_cons.mpr ⟨rfl, oB1252⟩
theorem oB1250 : ∀ w ∈ wB1250, goodWord w = true := List.forall_mem_cons.mpr ⟨rfl, oB1251⟩
theorem oB1249 : ∀ w ∈ wB1249, goodWord w = true := List.forall_mem_cons.mpr ⟨rfl, oB1250⟩
theorem oB1248 : ∀ w ∈ wB1248, goodWord w = true := List.forall_mem_cons.mpr ⟨rfl, oB1249⟩
theorem oB1247 : ∀ w ∈ wB1247, goodWord w = true := List.forall_mem_cons.mpr ⟨rfl, oB1248⟩
theorem oB1246 : ∀ w ∈ wB1246, goodWord w = true := List.forall_mem_cons.mpr ⟨rfl, oB1247⟩
theorem oB1245 : ∀ w ∈ wB1245, goodWord w = true := List.forall_mem_cons.mpr ⟨rfl, oB1246⟩
theorem oB1244 : ∀ w ∈ wB1244, goodWord w = true := List.forall_mem_cons.mpr ⟨rfl, oB1245⟩
theorem oB1243 : ∀ w ∈ wB1243, goodWord w = true := List.forall_mem_cons.mpr ⟨rfl, oB1244⟩
theorem oB1242 : ∀ w ∈ wB1242, goodWord w = true := List.forall_mem_cons.mpr ⟨rfl, oB1243⟩
theorem oB1241 : ∀ w ∈ wB1241, goodWord w = true := List.forall_mem_cons.mpr ⟨rfl, oB1242⟩
theorem oB1240 : ∀ w ∈ wB1240, goodWord w = true := List.forall_mem_cons.mpr ⟨rfl, oB1241⟩
theorem oB1239 : ∀ w ∈ wB1239, goodWord w = true := List.forall_mem_cons.mpr ⟨rfl, oB1240⟩
theorem oB1238 : ∀ w ∈ wB1238, goodWord w = true := List.forall_mem_cons.mpr ⟨rfl, oB1239⟩
theorem oB1237 : ∀ w ∈ wB1237, goodWord w = true := List.forall_mem_cons.mpr ⟨rfl, oB1238⟩
theorem oB1236 : ∀ w ∈ wB1236, goodWord w = true := List.forall_mem_cons.mpr ⟨rfl, oB1237⟩
theorem oB1235 : ∀ w ∈ wB1235, goodWord w = true := List.forall_mem_cons.mpr ⟨rfl, oB1236⟩
theorem oB1234 : ∀ w ∈ wB1234, goodWord w = true := List.forall_mem_cons.mpr ⟨rfl, oB1235⟩
theorem oB1233 : ∀ w ∈ wB1233, goodWord w = true := List.forall_mem_cons.mpr ⟨rfl, oB1234⟩
theorem oB1232 : ∀ w ∈ wB1232, goodWord w = true := List.forall_mem_cons.mpr ⟨rfl, oB1233⟩
theorem oB1231 : ∀ w ∈ wB1231, goodWord w = true := List.forall_mem_cons.mpr ⟨rfl, oB1232⟩
theorem oB1230 : ∀ w ∈ wB1230, goodWord w = true := List.forall_mem_cons.mpr ⟨rfl, oB1231⟩
theorem oB1229 : ∀ w ∈ wB1229, goodWord w = true := List.forall_mem_cons.mpr ⟨rfl, oB1230⟩
theorem oB1228 : ∀ w ∈ wB1228, goodWord w = true := List.forall_mem_cons.mpr ⟨rfl, oB1229⟩
theorem oB1227 : ∀ w ∈ wB1227, goodWord w = true := List.forall_mem_cons.mpr ⟨rfl, oB1228⟩
theorem oB1226 : ∀ w ∈ wB1226, goodWord w = true := List.forall_mem_cons.mpr ⟨rfl, oB1227⟩
theorem oB1225 : ∀ w ∈ wB1225, goodWord w = true := List.forall_mem_cons.mpr ⟨rfl, oB1226⟩
theorem oB1224 : ∀ w ∈ wB1224, goodWord w = true := List.forall_mem_cons.mpr ⟨rfl, oB1225⟩
theorem oB1223 : ∀ w ∈ wB1223, goodWord w = true := List.forall_mem_cons.mpr ⟨rfl, oB1224⟩
theorem oB1222 : ∀ w ∈ wB1222, goodWord w = true := List.forall_mem_cons.mpr ⟨rfl, oB1223⟩
theorem oB1221 : ∀ w ∈ wB1221, goodWord w = true := List.forall_mem_cons.mpr ⟨rfl, oB1222⟩
theorem oB1220 : ∀ w ∈ wB1220, goodWord w = true := List.forall_mem_cons.mpr ⟨rfl, oB1221⟩
theorem oB1219 : ∀ w ∈ wB1219, goodWord w = true := List.forall_mem_cons.mpr ⟨rfl, oB1220⟩
theorem oB1218 : ∀ w ∈ wB1218, goodWord w = true := List.forall_mem_cons.mpr ⟨rfl, oB1219⟩
theorem oB1217 : ∀ w ∈ wB1217, goodWord w = true := List.forall_mem_cons.mpr ⟨rfl, oB1218⟩
theorem oB1216 : ∀ w ∈ wB1216, goodWord w = true := List.forall_mem_cons.mpr ⟨rfl, oB1217⟩
theorem oB1215 : ∀ w ∈ wB1215, goodWord w = true := List.forall_mem_cons.mpr ⟨rfl, oB1216⟩
theorem oB1214 : ∀ w ∈ wB1214, goodWord w = true := List.forall_mem_cons.mpr ⟨rfl, oB1215⟩
theorem oB1213 : ∀ w ∈ wB1213, goodWord w = true := List.forall_mem_cons.mpr ⟨rfl, oB1214⟩
theorem oB1212 : ∀ w ∈ wB1212, goodWord w = true := List.forall_mem_cons.mpr ⟨rfl, oB1213⟩
theorem oB1211 : ∀ w ∈ wB1211, goodWord w = true := List.forall_mem_cons.mpr ⟨rfl, oB1212⟩
theorem oB1210 : ∀ w ∈ wB1210, goodWord w = true := List.forall_mem_cons.mpr ⟨rfl, oB1211⟩
theorem oB1209 : ∀ w ∈ wB1209, goodWord w = true := List.forall_mem_cons.mpr ⟨rfl, oB1210⟩
theorem oB1208 : ∀ w ∈ wB1208, goodWord w = true := List.forall_mem_cons.mpr ⟨rfl, oB1209⟩
theorem oB1207 : ∀ w ∈ wB1207, goodWord w = true := List.forall_mem_cons.mpr ⟨rfl, oB1208⟩
theorem oB1206 : ∀ w ∈ wB1206, goodWord w = true := List.forall_mem_cons.mpr ⟨rfl, oB1207⟩
theorem oB1205 : ∀ w ∈ wB1205, goodWord w = true := List.forall_mem_cons.mpr ⟨rfl, oB1206⟩
theorem oB1204 : ∀ w ∈ wB1204, goodWord w = true := List.forall_mem_cons.mpr ⟨rfl, oB1205⟩
theorem oB1203 : ∀ w ∈ wB1203, goodWord w = true := List.forall_mem_cons.mpr ⟨rfl, oB1204⟩
theorem oB1202 : ∀ w ∈ wB1202, goodWord w = true := List.forall_mem_cons.mpr ⟨rfl, oB1203⟩
theorem oB1201 : ∀ w ∈ wB1201, goodWord w = true := List.forall_mem_cons.mpr ⟨rfl, oB1202⟩
theorem oB1200 : ∀ w ∈ wB1200, goodWord w = true := List.forall_mem_cons.mpr ⟨rfl, oB1201⟩
theorem oB1199 : ∀ w ∈ wB1199, goodWord w = true := List.forall_mem_cons.mpr ⟨rfl, oB1200⟩
theorem oB1198 : ∀ w ∈ wB1198, goodWord w = true := List.forall_mem_cons.mpr ⟨rfl, oB1199⟩
theorem oB1197 : ∀ w ∈ wB1197, goodWord w = true := List.forall_mem_cons.mpr ⟨rfl, oB1198⟩
theorem oB1196 : ∀ w ∈ wB1196, goodWord w = true := List.forall_mem_cons.mpr ⟨rfl, oB1197⟩
theorem oB1195 : ∀ w ∈ wB1195, goodWord w = true := List.forall_mem_cons.mpr ⟨rfl, oB1196⟩
theorem oB1194 : ∀ w ∈ wB1194, goodWord w = true := List.forall_mem_cons.mpr ⟨rfl, oB1195⟩
theorem oB1193 : ∀ w ∈ wB1193, goodWord w = true := List.forall_mem_cons.mpr ⟨rfl, oB1194⟩
theorem oB1192 : ∀ w ∈ wB1192, goodWord w = true := List.forall_mem_cons.mpr ⟨rfl, oB1193⟩
theorem oB1191 : ∀ w ∈ wB1191, goodWord w = true := List.forall_mem_cons.mpr ⟨rfl, oB1192⟩
theorem oB1190 : ∀ w ∈ wB1190, goodWord w = true := List.forall_mem_cons.mpr ⟨rfl, oB1191⟩
theorem oB1189 : ∀ w ∈ wB1189, goodWord w = true := List.forall_mem_cons.mpr ⟨rfl, oB1190⟩
theorem oB1188 : ∀ w ∈ wB1188, goodWord w = true := List.forall_mem_cons.mpr ⟨rfl, oB1189⟩
theorem oB1187 : ∀ w ∈ wB1187, goodWord w = true := List.forall_mem_cons.mpr ⟨rfl, oB1188⟩
theorem oB1186 : ∀ w ∈ wB1186, goodWord w = true := List.forall_mem_cons.mpr ⟨rfl, oB1187⟩
theorem oB1185 : ∀ w ∈ wB1185, goodWord w = true := List.forall_mem_cons.mpr ⟨rfl, oB1186⟩
theorem oB1184 : ∀ w ∈ wB1184, goodWord w = true := List.forall_mem_cons.mpr ⟨rfl, oB1185⟩
theorem oB1183 : ∀ w ∈ wB1183, goodWord w = true := List.forall_mem_cons.mpr ⟨rfl, oB1184⟩
theorem oB1182 : ∀ w ∈ wB1182, goodWord w = true := List.forall_mem_cons.mpr ⟨rfl, oB1183⟩
theorem oB1181 : ∀ w ∈ wB1181, goodWord w = true := List.forall_mem_cons.mpr ⟨rfl, oB1182⟩
theorem oB1180 : ∀ w ∈ wB1180, goodWord w = true := List.forall_mem_cons.mpr ⟨rfl, oB1181⟩
theorem oB1179 : ∀ w ∈ wB1179, goodWord w = true := List.forall_mem_cons.mpr ⟨rfl, oB1180⟩
theorem oB1178 : ∀ w ∈ wB1178, goodWord w = true := List.forall_mem_cons.mpr ⟨rfl, oB1179⟩
theorem oB1177 : ∀ w ∈ wB1177, goodWord w = true := List.forall_mem_cons.mpr ⟨rfl, oB1178⟩
theorem oB1176 : ∀ w ∈ wB1176, goodWord w = true := List.forall_mem_cons.mpr ⟨rfl, oB1177⟩
theorem oB1175 : ∀ w ∈ wB1175, goodWord w = true := List.forall_mem_cons.mpr ⟨rfl, oB1176⟩
theorem oB1174 : ∀ w ∈ wB1174, goodWord w = true := List.forall_mem_cons.mpr ⟨rfl, oB1175⟩
theorem oB1173 : ∀ w ∈ wB1173, goodWord w = true := List.forall_mem_cons.mpr ⟨rfl, oB1174⟩
theorem oB1172 : ∀ w ∈ wB1172, goodWord w = true := List.forall_mem_cons.mpr ⟨rfl, oB1173⟩
theorem oB1171 : ∀ w ∈ wB1171, goodWord w = true := List.forall_mem_cons.mpr ⟨rfl, oB1172⟩
theorem oB1170 : ∀ w ∈ wB1170, goodWord w = true := List.forall_mem_cons.mpr ⟨rfl, oB1171⟩
theorem oB1169 : ∀ w ∈ wB1169, goodWord w = true := List.forall_mem_cons.mpr ⟨rfl, oB1170⟩
theorem oB1168 : ∀ w ∈ wB1168, goodWord w = true := List.forall_mem_cons.mpr ⟨rfl, oB1169⟩
theorem oB1167 : ∀ w ∈ wB1167, goodWord w = true := List.forall_mem_cons.mpr ⟨rfl, oB1168⟩
theorem oB1166 : ∀ w ∈ wB1166, goodWord w = true := List.forall_mem_cons.mpr ⟨rfl, oB1167⟩
theorem oB1165 : ∀ w ∈ wB1165, goodWord w = true := List.forall_mem_cons.mpr ⟨rfl, oB1166⟩
theorem oB1164 : ∀ w ∈ wB1164, goodWord w = true := List.forall_mem_cons.mpr ⟨rfl, oB1165⟩
theorem oB1163 : ∀ w ∈ wB1163, goodWord w = true := List.forall_mem_cons.mpr ⟨rfl, oB1164⟩
theorem oB1162 : ∀ w ∈ wB1162, goodWord w = true := List.forall_mem_cons.mpr ⟨rfl, oB1163⟩
theorem oB1161 : ∀ w ∈ wB1161, goodWord w = true := List.forall_mem_cons.mpr ⟨rfl, oB1162⟩
theorem oB1160 : ∀ w ∈ wB1160, goodWord w = true := List.forall_mem_cons.mpr ⟨rfl, oB1161⟩
theorem oB1159 : ∀ w ∈ wB1159, goodWord w = true := List.forall_mem_cons.mpr ⟨rfl, oB1160⟩
theorem oB1158 : ∀ w ∈ wB1158, goodWord w = true := List.forall_mem_cons.mpr ⟨rfl, oB1159⟩
theorem oB1157 : ∀ w ∈ wB1157, goodWord w = true := List.forall_mem_cons.mpr ⟨rfl, oB1158⟩
theorem oB1156 : ∀ w ∈ wB1156, goodWord w = true := List.forall_mem_cons.mpr ⟨rfl, oB1157⟩
theorem oB1155 : ∀ w ∈ wB1155, goodWord w = true := List.forall_mem_cons.mpr ⟨rfl, oB1156⟩
theorem oB1154 : ∀ w ∈ wB1154, goodWord w = true := List.forall_mem_cons.mpr ⟨rfl, oB1155⟩
theorem oB1153 : ∀ w ∈ wB1153, goodWord w = true := List.forall_mem_cons.mpr ⟨rfl, oB1154⟩
theorem oB1152 : ∀ w ∈ wB1152, goodWord w = true := List.forall_mem_cons.mpr ⟨rfl, oB1153⟩
theorem oB1151 : ∀ w ∈ wB1151, goodWord w = true := List.forall_mem_cons.mpr ⟨rfl, oB1152⟩
theorem oB1150 : ∀ w ∈ wB1150, goodWord w = true := List.forall_mem_cons.mpr ⟨rfl, oB1151⟩
theorem oB1149 : ∀ w ∈ wB1149, goodWord w = true := List.forall_mem_cons.mpr ⟨rfl, oB1150⟩
theorem oB1148 : ∀ w ∈ wB1148, goodWord w = true := List.forall_mem_cons.mpr ⟨rfl, oB1149⟩
theorem oB1147 : ∀ w ∈ wB1147, goodWord w = true := List.forall_mem_cons.mpr ⟨rfl, oB1148⟩
theorem oB1146 : ∀ w ∈ wB1146, goodWord w = true := List.forall_mem_cons.mpr ⟨rfl, oB1147⟩
theorem oB1145 : ∀ w ∈ wB1145, goodWord w = true := List.forall_mem_cons.mpr ⟨rfl, oB1146⟩
theorem oB1144 : ∀ w ∈ wB1144, goodWord w = true := List.forall_mem_cons.mpr ⟨rfl, oB1145⟩
theorem oB1143 : ∀ w ∈ wB1143, goodWord w = true := List.forall_mem_cons.mpr ⟨rfl, oB1144⟩
theorem oB1142 : ∀ w ∈ wB1142, goodWord w = true := List.forall_mem_cons.mpr ⟨rfl, oB1143⟩
theorem oB1141 : ∀ w ∈ wB1141, goodWord w = true := List.forall_mem_cons.mpr ⟨rfl, oB1142⟩
theorem oB1140 : ∀ w ∈ wB1140, goodWord w = true := List.forall_mem_cons.mpr ⟨rfl, oB1141⟩
theorem oB1139 : ∀ w ∈ wB1139, goodWord w = true := List.forall_mem_cons.mpr ⟨rfl, oB1140⟩
theorem oB1138 : ∀ w ∈ wB1138, goodWord w = true := List.forall_mem_cons.mpr ⟨rfl, oB1139⟩
theorem oB1137 : ∀ w ∈ wB1137, goodWord w = true := List.forall_mem_cons.mpr ⟨rfl, oB1138⟩
theorem oB1136 : ∀ w ∈ wB1136, goodWord w = true := List.forall_mem_cons.mpr ⟨rfl, oB1137⟩
theorem oB1135 : ∀ w ∈ wB1135, goodWord w = true := List.forall_mem_cons.mpr ⟨rfl, oB1136⟩
theorem oB1134 : ∀ w ∈ wB1134, goodWord w = true := List.forall_mem_cons.mpr ⟨rfl, oB1135⟩
theorem oB1133 : ∀ w ∈ wB1133, goodWord w = true := List.forall_mem_cons.mpr ⟨rfl, oB1134⟩
theorem oB1132 : ∀ w ∈ wB1132, goodWord w = true := List.forall_mem_cons.mpr ⟨rfl, oB1133⟩
theorem oB1131 : ∀ w ∈ wB1131, goodWord w = true := List.forall_mem_cons.mpr ⟨rfl, oB1132⟩
theorem oB1130 : ∀ w ∈ wB1130, goodWord w = true := List.forall_mem_cons.mpr ⟨rfl, oB1131⟩
theorem oB1129 : ∀ w ∈ wB1129, goodWord w = true := List.forall_mem_cons.mpr ⟨rfl, oB1130⟩
theorem oB1128 : ∀ w ∈ wB1128, goodWord w = true := List.forall_mem_cons.mpr ⟨rfl, oB1129⟩
theorem oB1127 : ∀ w ∈ wB1127, goodWord w = true := List.forall_mem_cons.mpr ⟨rfl, oB1128⟩
theorem oB1126 : ∀ w ∈ wB1126, goodWord w = true := List.forall_mem_cons.mpr ⟨rfl, oB1127⟩
theorem oB1125 : ∀ w ∈ wB1125, goodWord w = true := List.forall_mem_cons.mpr ⟨rfl, oB1126⟩
theorem oB1124 : ∀ w ∈ wB1124, goodWord w = true := List.forall_mem_cons.mpr ⟨rfl, oB1125⟩
theorem oB1123 : ∀ w ∈ wB1123, goodWord w = true := List.forall_mem_cons.mpr ⟨rfl, oB1124⟩
theorem oB1122 : ∀ w ∈ wB1122, goodWord w = true := List.forall_mem_cons.mpr ⟨rfl, oB1123⟩
theorem oB1121 : ∀ w ∈ wB1121, goodWord w = true := List.forall_mem_cons.mpr ⟨rfl, oB1122⟩
theorem oB1120 : ∀ w ∈ wB1120, goodWord w = true := List.forall_mem_cons.mpr ⟨rfl, oB1121⟩
theorem oB1119 : ∀ w ∈ wB1119, goodWord w = true := List.forall_mem_cons.mpr ⟨rfl, oB1120⟩
theorem oB1118 : ∀ w ∈ wB1118, goodWord w = true := List.forall_mem_cons.mpr ⟨rfl, oB1119⟩
theorem oB1117 : ∀ w ∈ wB1117, goodWord w = true := List.forall_mem_cons.mpr ⟨rfl, oB1118⟩
theorem oB1116 : ∀ w ∈ wB1116, goodWord w = true := List.forall_mem_cons.mpr ⟨rfl, oB1117⟩
theorem oB1115 : ∀ w ∈ wB1115, goodWord w = true := List.forall_mem_cons.mpr ⟨rfl, oB1116⟩
theorem oB1114 : ∀ w ∈ wB1114, goodWord w = true := List.forall_mem_cons.mpr ⟨rfl, oB1115⟩
theorem oB1113 : ∀ w ∈ wB1113, goodWord w = true := List.forall_mem_cons.mpr ⟨rfl, oB1114⟩
theorem oB1112 : ∀ w ∈ wB1112, goodWord w = true := List.forall_mem_cons.mpr ⟨rfl, oB1113⟩
theorem oB1111 : ∀ w ∈ wB1111, goodWord w = true := List.forall_mem_cons.mpr ⟨rfl, oB1112⟩
theorem oB1110 : ∀ w ∈ wB1110, goodWord w = true := List.forall_mem_cons.mpr ⟨rfl, oB1111⟩
theorem oB1109 : ∀ w ∈ wB1109, goodWord w = true := List.forall_mem_cons.mpr ⟨rfl, oB1110⟩
theorem oB1108 : ∀ w ∈ wB1108, goodWord w = true := List.forall_mem_cons.mpr ⟨rfl, oB1109⟩
theorem oB1107 : ∀ w ∈ wB1107, goodWord w = true := List.forall_mem_cons.mpr ⟨rfl, oB1108⟩
theorem oB1106 : ∀ w ∈ wB1106, goodWord w = true := List.forall_mem_cons.mpr ⟨rfl, oB1107⟩
theorem oB1105 : ∀ w ∈ wB1105, goodWord w = true := List.forall_mem_cons.mpr ⟨rfl, oB1106⟩
theorem oB1104 : ∀ w ∈ wB1104, goodWord w = true := List.forall_mem_cons.mpr ⟨rfl, oB1105⟩
theorem oB1103 : ∀ w ∈ wB1103, goodWord w = true := List.forall_mem_cons.mpr ⟨rfl, oB1104⟩
theorem oB1102 : ∀ w ∈ wB1102, goodWord w = true := List.forall_mem_cons.mpr ⟨rfl, oB1103⟩
theorem oB1101 : ∀ w ∈ wB1101, goodWord w = true := List.forall_mem_cons.mpr ⟨rfl, oB1102⟩
theorem oB1100 : ∀ w ∈ wB1100, goodWord w = true := List.forall_mem_cons.mpr ⟨rfl, oB1101⟩
theorem oB1099 : ∀ w ∈ wB1099, goodWord w = true := List.forall_mem_cons.mpr ⟨rfl, oB1100⟩
theorem oB1098 : ∀ w ∈ wB1098, goodWord w = true := List.forall_mem_cons.mpr ⟨rfl, oB1099⟩
theorem oB1097 : ∀ w ∈ wB1097, goodWord w = true := List.forall_mem_cons.mpr ⟨rfl, oB1098⟩
theorem oB1096 : ∀ w ∈ wB1096, goodWord w = true := List.forall_mem_cons.mpr ⟨rfl, oB1097⟩
theorem oB1095 : ∀ w ∈ wB1095, goodWord w = true := List.forall_mem_cons.mpr ⟨rfl, oB1096⟩
theorem oB1094 : ∀ w ∈ wB1094, goodWord w = true := List.forall_mem_cons.mpr ⟨rfl, oB1095⟩
theorem oB1093 : ∀ w ∈ wB1093, goodWord w = true := List.forall_mem_cons.mpr ⟨rfl, oB1094⟩
theorem oB1092 : ∀ w ∈ wB1092, goodWord w = true := List.forall_mem_cons.mpr ⟨rfl, oB1093⟩
theorem oB1091 : ∀ w ∈ wB1091, goodWord w = true := List.forall_mem_cons.mpr ⟨rfl, oB1092⟩
theorem oB1090 : ∀ w ∈ wB1090, goodWord w = true := List.forall_mem_cons.mpr ⟨rfl, oB1091⟩
theorem oB1089 : ∀ w ∈ wB1089, goodWord w = true := List.forall_mem_cons.mpr ⟨rfl, oB1090⟩
theorem oB1088 : ∀ w ∈ wB1088, goodWord w = true := List.forall_mem_cons.mpr ⟨rfl, oB1089⟩
theorem oB1087 : ∀ w ∈ wB1087, goodWord w = true := List.forall_mem_cons.mpr ⟨rfl, oB1088⟩
theorem oB1086 : ∀ w ∈ wB1086, goodWord w = true := List.forall_mem_cons.mpr ⟨rfl, oB1087⟩
theorem oB1085 : ∀ w ∈ wB1085, goodWord w = true := List.forall_mem_cons.mpr ⟨rfl, oB1086⟩
theorem oB1084 : ∀ w ∈ wB1084, goodWord w = true := List.forall_mem_cons.mpr ⟨rfl, oB1085⟩
theorem oB1083 : ∀ w ∈ wB1083, goodWord w = true := List.forall_mem_cons.mpr ⟨rfl, oB1084⟩
theorem oB1082 : ∀ w ∈ wB1082, goodWord w = true := List.forall_mem_cons.mpr ⟨rfl, oB1083⟩
theorem oB1081 : ∀ w ∈ wB1081, goodWord w = true := List.forall_mem_cons.mpr ⟨rfl, oB1082⟩
theorem oB1080 : ∀ w ∈ wB1080, goodWord w = true := List.forall_mem_cons.mpr ⟨rfl, oB1081⟩
theorem oB1079 : ∀ w ∈ wB1079, goodWord w = true := List.forall_mem_cons.mpr ⟨rfl, oB1080⟩
theorem oB1078 : ∀ w ∈ wB1078, goodWord w = true := List.forall_mem_cons.mpr ⟨rfl, oB1079⟩
theorem oB1077 : ∀ w ∈ wB1077, goodWord w = true := List.forall_mem_cons.mpr ⟨rfl, oB1078⟩
theorem oB1076 : ∀ w ∈ wB1076, goodWord w = true := List.forall_mem_cons.mpr ⟨rfl, oB1077⟩
theorem oB1075 : ∀ w ∈ wB1075, goodWord w = true := List.forall_mem_cons.mpr ⟨rfl, oB1076⟩
theorem oB1074 : ∀ w ∈ wB1074, goodWord w = true := List.forall_mem_cons.mpr ⟨rfl, oB1075⟩
theorem oB1073 : ∀ w ∈ wB1073, goodWord w = true := List.forall_mem_cons.mpr ⟨rfl, oB1074⟩
theorem oB1072 : ∀ w ∈ wB1072, goodWord w = true := List.forall_mem_cons.mpr ⟨rfl, oB1073⟩
theorem oB1071 : ∀ w ∈ wB1071, goodWord w = true := List.forall_mem_cons.mpr ⟨rfl, oB1072⟩
theorem oB1070 : ∀ w ∈ wB1070, goodWord w = true := List.forall_mem_cons.mpr ⟨rfl, oB1071⟩
theorem oB1069 : ∀ w ∈ wB1069, goodWord w = true := List.forall_mem_cons.mpr ⟨rfl, oB1070⟩
theorem oB1068 : ∀ w ∈ wB1068, goodWord w = true := List.forall_mem_cons.mpr ⟨rfl, oB1069⟩
theorem oB1067 : ∀ w ∈ wB1067, goodWord w = true := List.forall_mem_cons.mpr ⟨rfl, oB1068⟩
theorem oB1066 : ∀ w ∈ wB1066, goodWord w = true := List.forall_mem_cons.mpr ⟨rfl, oB1067⟩
theorem oB1065 : ∀ w ∈ wB1065, goodWord w = true := List.forall_mem_cons.mpr ⟨rfl, oB1066⟩
theorem oB1064 : ∀ w ∈ wB1064, goodWord w = true := List.forall_mem_cons.mpr ⟨rfl, oB1065⟩
theorem oB1063 : ∀ w ∈ wB1063, goodWord w = true := List.forall_mem_cons.mpr ⟨rfl, oB1064⟩
theorem oB1062 : ∀ w ∈ wB1062, goodWord w = true := List.forall_mem_cons.mpr ⟨rfl, oB1063⟩
theorem oB1061 : ∀ w ∈ wB1061, goodWord w = true := List.forall_mem_cons.mpr ⟨rfl, oB1062⟩
theorem oB1060 : ∀ w ∈ wB1060, goodWord w = true := List.forall_mem_cons.mpr ⟨rfl, oB1061⟩
theorem oB1059 : ∀ w ∈ wB1059, goodWord w = true := List.forall_mem_cons.mpr ⟨rfl, oB1060⟩
theorem oB1058 : ∀ w ∈ wB1058, goodWord w = true := List.forall_mem_cons.mpr ⟨rfl, oB1059⟩
theorem oB1057 : ∀ w ∈ wB1057, goodWord w = true := List.forall_mem_cons.mpr ⟨rfl, oB1058⟩
theorem oB1056 : ∀ w ∈ wB1056, goodWord w = true := List.forall_mem_cons.mpr ⟨rfl, oB1057⟩
theorem oB1055 : ∀ w ∈ wB1055, goodWord w = true := List.forall_mem_cons.mpr ⟨rfl, oB1056⟩
theorem oB1054 : ∀ w ∈ wB1054, goodWord w = true := List.forall_mem_cons.mpr ⟨rfl, oB1055⟩
theorem oB1053 : ∀ w ∈ wB1053, goodWord w = true := List.forall_mem_cons.mpr ⟨rfl, oB1054⟩
theorem oB1052 : ∀ w ∈ wB1052, goodWord w = true := List.forall_mem_cons.mpr ⟨rfl, oB1053⟩
theorem oB1051 : ∀ w ∈ wB1051, goodWord w = true := List.forall_mem_cons.mpr ⟨rfl, oB1052⟩
theorem oB1050 : ∀ w ∈ wB1050, goodWord w = true := List.forall_mem_cons.mpr ⟨rfl, oB1051⟩
theorem oB1049 : ∀ w ∈ wB1049, goodWord w = true := List.forall_mem_cons.mpr ⟨rfl, oB1050⟩
theorem oB1048 : ∀ w ∈ wB1048, goodWord w = true := List.forall_mem_cons.mpr ⟨rfl, oB1049⟩
theorem oB1047 : ∀ w ∈ wB1047, goodWord w = true := List.forall_mem_cons.mpr ⟨rfl, oB1048⟩
theorem oB1046 : ∀ w ∈ wB1046, goodWord w = true := List.forall_mem_cons.mpr ⟨rfl, oB1047⟩
theorem oB1045 : ∀ w ∈ wB1045, goodWord w = true := List.forall_mem_cons.mpr ⟨rfl, oB1046⟩
theorem oB1044 : ∀ w ∈ wB1044, goodWord w = true := List.forall_mem_cons.mpr ⟨rfl, oB1045⟩
theorem oB1043 : ∀ w ∈ wB1043, goodWord w = true := List.forall_mem_cons.mpr ⟨rfl, oB1044⟩
theorem oB1042 : ∀ w ∈ wB1042, goodWord w = true := List.forall_mem_cons.mpr ⟨rfl, oB1043⟩
theorem oB1041 : ∀ w ∈ wB1041, goodWord w = true := List.forall_mem_cons.mpr ⟨rfl, oB1042⟩
theorem oB1040 : ∀ w ∈ wB1040, goodWord w = true := List.forall_mem_cons.mpr ⟨rfl, oB1041⟩
theorem oB1039 : ∀ w ∈ wB1039, goodWord w = true := List.forall_mem_cons.mpr ⟨rfl, oB1040⟩
theorem oB1038 : ∀ w ∈ wB1038, goodWord w = true := List.forall_mem_cons.mpr ⟨rfl, oB1039⟩
theorem oB1037 : ∀ w ∈ wB1037, goodWord w = true := List.forall_mem_cons.mpr ⟨rfl, oB1038⟩
theorem oB1036 : ∀ w ∈ wB1036, goodWord w = true := List.forall_mem_cons.mpr ⟨rfl, oB1037⟩
theorem oB1035 : ∀ w ∈ wB1035, goodWord w = true := List.forall_mem_cons.mpr ⟨rfl, oB1036⟩
theorem oB1034 : ∀ w ∈ wB1034, goodWord w = true := List.forall_mem_cons.mpr ⟨rfl, oB1035⟩
theorem oB1033 : ∀ w ∈ wB1033, goodWord w = true := List.forall_mem_cons.mpr ⟨rfl, oB1034⟩
theorem oB1032 : ∀ w ∈ wB1032, goodWord w = true := List.forall_mem_cons.mpr ⟨rfl, oB1033⟩
theorem oB1031 : ∀ w ∈ wB1031, goodWord w = true := List.forall_mem_cons.mpr ⟨rfl, oB1032⟩
theorem oB1030 : ∀ w ∈ wB1030, goodWord w = true := List.forall_mem_cons.mpr ⟨rfl, oB1031⟩
theorem oB1029 : ∀ w ∈ wB1029, goodWord w = true := List.forall_mem_cons.mpr ⟨rfl, oB1030⟩
theorem oB1028 : ∀ w ∈ wB1028, goodWord w = true := List.forall_mem_cons.mpr ⟨rfl, oB1029⟩
theorem oB1027 : ∀ w ∈ wB1027, goodWord w = true := List.forall_mem_cons.mpr ⟨rfl, oB1028⟩
theorem oB1026 : ∀ w ∈ wB1026, goodWord w = true := List.forall_mem_cons.mpr ⟨rfl, oB1027⟩
theorem oB1025 : ∀ w ∈ wB1025, goodWord w = true := List.forall_mem_cons.mpr ⟨rfl, oB1026⟩
theorem oB1024 : ∀ w ∈ wB1024, goodWord w = true := List.forall_mem_cons.mpr ⟨rfl, oB1025⟩
theorem oB1023 : ∀ w ∈ wB1023, goodWord w = true := List.forall_mem_cons.mpr ⟨rfl, oB1024⟩
theorem oB1022 : ∀ w ∈ wB1022, goodWord w = true := List.forall_mem_cons.mpr ⟨rfl, oB1023⟩
theorem oB1021 : ∀ w ∈ wB1021, goodWord w = true := List.forall_mem_cons.mpr ⟨rfl, oB1022⟩
theorem oB1020 : ∀ w ∈ wB1020, goodWord w = true := List.forall_mem_cons.mpr ⟨rfl, oB1021⟩
theorem oB1019 : ∀ w ∈ wB1019, goodWord w = true := List.forall_mem_cons.mpr ⟨rfl, oB1020⟩
theorem oB1018 : ∀ w ∈ wB1018, goodWord w = true := List.forall_mem_cons.mpr ⟨rfl, oB1019⟩
theorem oB1017 : ∀ w ∈ wB1017, goodWord w = true := List.forall_mem_cons.mpr ⟨rfl, oB1018⟩
theorem oB1016 : ∀ w ∈ wB1016, goodWord w = true := List.forall_mem_cons.mpr ⟨rfl, oB1017⟩
theorem oB1015 : ∀ w ∈ wB1015, goodWord w = true := List.forall_mem_cons.mpr ⟨rfl, oB1016⟩
theorem oB1014 : ∀ w ∈ wB1014, goodWord w = true := List.forall_mem_cons.mpr ⟨rfl, oB1015⟩
theorem oB1013 : ∀ w ∈ wB1013, goodWord w = true := List.forall_mem_cons.mpr ⟨rfl, oB1014⟩
theorem oB1012 : ∀ w ∈ wB1012, goodWord w = true := List.forall_mem_cons.mpr ⟨rfl, oB1013⟩
theorem oB1011 : ∀ w ∈ wB1011, goodWord w = true := List.forall_mem_cons.mpr ⟨rfl, oB1012⟩
theorem oB1010 : ∀ w ∈ wB1010, goodWord w = true := List.forall_mem_cons.mpr ⟨rfl, oB1011⟩
theorem oB1009 : ∀ w ∈ wB1009, goodWord w = true := List.forall_mem_cons.mpr ⟨rfl, oB1010⟩
theorem oB1008 : ∀ w ∈ wB1008, goodWord w = true := List.forall_mem_cons.mpr ⟨rfl, oB1009⟩
theorem oB1007 : ∀ w ∈ wB1007, goodWord w = true := List.forall_mem_cons.mpr ⟨rfl, oB1008⟩
theorem oB1006 : ∀ w ∈ wB1006, goodWord w = true := List.forall_mem_cons.mpr ⟨rfl, oB1007⟩
theorem oB1005 : ∀ w ∈ wB1005, goodWord w = true := List.forall_mem_cons.mpr ⟨rfl, oB1006⟩
theorem oB1004 : ∀ w ∈ wB1004, goodWord w = true := List.forall_mem_cons.mpr ⟨rfl, oB1005⟩
theorem oB1003 : ∀ w ∈ wB1003, goodWord w = true := List.forall_mem_cons.mpr ⟨rfl, oB1004⟩
theorem oB1002 : ∀ w ∈ wB1002, goodWord w = true := List.forall_mem_cons.mpr ⟨rfl, oB1003⟩
theorem oB1001 : ∀ w ∈ wB1001, goodWord w = true := List.forall_mem_cons.mpr ⟨rfl, oB1002⟩
theorem oB1000 : ∀ w ∈ wB1000, goodWord w = true := List.forall_mem_cons.mpr ⟨rfl, oB1001⟩
theorem oB999 : ∀ w ∈ wB999, goodWord w = true := List.forall_mem_cons.mpr ⟨rfl, oB1000⟩
theorem oB998 : ∀ w ∈ wB998, goodWord w = true := List.forall_mem_cons.mpr ⟨rfl, oB999⟩
theorem oB997 : ∀ w ∈ wB997, goodWord w = true := List.forall_mem_cons.mpr ⟨rfl, oB998⟩
theorem oB996 : ∀ w ∈ wB996, goodWord w = true := List.forall_mem_cons.mpr ⟨rfl, oB997⟩
theorem oB995 : ∀ w ∈ wB995, goodWord w = true := List.forall_mem_cons.mpr ⟨rfl, oB996⟩
theorem oB994 : ∀ w ∈ wB994, goodWord w = true := List.forall_mem_cons.mpr ⟨rfl, oB995⟩
theorem oB993 : ∀ w ∈ wB993, goodWord w = true := List.forall_mem_cons.mpr ⟨rfl, oB994⟩
theorem oB992 : ∀ w ∈ wB992, goodWord w = true := List.forall_mem_cons.mpr ⟨rfl, oB993⟩
theorem oB991 : ∀ w ∈ wB991, goodWord w = true := List.forall_mem_cons.mpr ⟨rfl, oB992⟩
theorem oB990 : ∀ w ∈ wB990, goodWord w = true := List.forall_mem_cons.mpr ⟨rfl, oB991⟩
theorem oB989 : ∀ w ∈ wB989, goodWord w = true := List.forall_mem_cons.mpr ⟨rfl, oB990⟩
theorem oB988 : ∀ w ∈ wB988, goodWord w = true := List.forall_mem_cons.mpr ⟨rfl, oB989⟩
theorem oB987 : ∀ w ∈ wB987, goodWord w = true := List.forall_mem_cons.mpr ⟨rfl, oB988⟩
theorem oB986 : ∀ w ∈ wB986, goodWord w = true := List.forall_mem_cons.mpr ⟨rfl, oB987⟩
theorem oB985 : ∀ w ∈ wB985, goodWord w = true := List.forall_mem_cons.mpr ⟨rfl, oB986⟩
theorem oB984 : ∀ w ∈ wB984, goodWord w = true := List.forall_mem_cons.mpr ⟨rfl, oB985⟩
theorem oB983 : ∀ w ∈ wB983, goodWord w = true := List.forall_mem_cons.mpr ⟨rfl, oB984⟩
theorem oB982 : ∀ w ∈ wB982, goodWord w = true := List.forall_mem_cons.mpr ⟨rfl, oB983⟩
theorem oB981 : ∀ w ∈ wB981, goodWord w = true := List.forall_mem_cons.mpr ⟨rfl, oB982⟩
theorem oB980 : ∀ w ∈ wB980, goodWord w = true := List.forall_mem_cons.mpr ⟨rfl, oB981⟩
theorem oB979 : ∀ w ∈ wB979, goodWord w = true := List.forall_mem_cons.mpr ⟨rfl, oB980⟩
theorem oB978 : ∀ w ∈ wB978, goodWord w = true := List.forall_mem_cons.mpr ⟨rfl, oB979⟩
theorem oB977 : ∀ w ∈ wB977, goodWord w = true := List.forall_mem_cons.mpr ⟨rfl, oB978⟩
theorem oB976 : ∀ w ∈ wB976, goodWord w = true := List.forall_mem_cons.mpr ⟨rfl, oB977⟩
theorem oB975 : ∀ w ∈ wB975, goodWord w = true := List.forall_mem_cons.mpr ⟨rfl, oB976⟩
theorem oB974 : ∀ w ∈ wB974, goodWord w = true := List.forall_mem_cons.mpr ⟨rfl, oB975⟩
theorem oB973 : ∀ w ∈ wB973, goodWord w = true := List.forall_mem_cons.mpr ⟨rfl, oB974⟩
theorem oB972 : ∀ w ∈ wB972, goodWord w = true := List.forall_mem_cons.mpr ⟨rfl, oB973⟩
theorem oB971 : ∀ w ∈ wB971, goodWord w = true := List.forall_mem_cons.mpr ⟨rfl, oB972⟩
theorem oB970 : ∀ w ∈ wB970, goodWord w = true := List.forall_mem_cons.mpr ⟨rfl, oB971⟩
theorem oB969 : ∀ w ∈ wB969, goodWord w = true := List.forall_mem_cons.mpr ⟨rfl, oB970⟩
theorem oB968 : ∀ w ∈ wB968, goodWord w = true := List.forall_mem_cons.mpr ⟨rfl, oB969⟩
theorem oB967 : ∀ w ∈ wB967, goodWord w = true := List.forall_mem_cons.mpr ⟨rfl, oB968⟩
theorem oB966 : ∀ w ∈ wB966, goodWord w = true := List.forall_mem_cons.mpr ⟨rfl, oB967⟩
theorem oB965 : ∀ w ∈ wB965, goodWord w = true := List.forall_mem_cons.mpr ⟨rfl, oB966⟩
theorem oB964 : ∀ w ∈ wB964, goodWord w = true := List.forall_mem_cons.mpr ⟨rfl, oB965⟩
theorem oB963 : ∀ w ∈ wB963, goodWord w = true := List.forall_mem_cons.mpr ⟨rfl, oB964⟩
theorem oB962 : ∀ w ∈ wB962, goodWord w = true := List.forall_mem_cons.mpr ⟨rfl, oB963⟩
theorem oB961 : ∀ w ∈ wB961, goodWord w = true := List.forall_mem_cons.mpr ⟨rfl, oB962⟩
theorem oB960 : ∀ w ∈ wB960, goodWord w = true := List.forall_mem_cons.mpr ⟨rfl, oB961⟩
theorem oB959 : ∀ w ∈ wB959, goodWord w = true := List.forall_mem_cons.mpr ⟨rfl, oB960⟩
theorem oB958 : ∀ w ∈ wB958, goodWord w = true := List.forall_mem_cons.mpr ⟨rfl, oB959⟩
theorem oB957 : ∀ w ∈ wB957, goodWord w = true := List.forall_mem_cons.mpr ⟨rfl, oB958⟩
theorem oB956 : ∀ w ∈ wB956, goodWord w = true := List.forall_mem_cons.mpr ⟨rfl, oB957⟩
theorem oB955 : ∀ w ∈ wB955, goodWord w = true := List.forall_mem_cons.mpr ⟨rfl, oB956⟩
theorem oB954 : ∀ w ∈ wB954, goodWord w = true := List.forall_mem_cons.mpr ⟨rfl, oB955⟩
theorem oB953 : ∀ w ∈ wB953, goodWord w = true := List.forall_mem_cons.mpr ⟨rfl, oB954⟩
theorem oB952 : ∀ w ∈ wB952, goodWord w = true := List.forall_mem_cons.mpr ⟨rfl, oB953⟩
theorem oB951 : ∀ w ∈ wB951, goodWord w = true := List.forall_mem_cons.mpr ⟨rfl, oB952⟩
theorem oB950 : ∀ w ∈ wB950, goodWord w = true := List.forall_mem_cons.mpr ⟨rfl, oB951⟩
theorem oB949 : ∀ w ∈ wB949, goodWord w = true := List.forall_mem_cons.mpr ⟨rfl, oB950⟩
theorem oB948 : ∀ w ∈ wB948, goodWord w = true := List.forall_mem_cons.mpr ⟨rfl, oB949⟩
theorem oB947 : ∀ w ∈ wB947, goodWord w = true := List.forall_mem_cons.mpr ⟨rfl, oB948⟩
theorem oB946 : ∀ w ∈ wB946, goodWord w = true := List.forall_mem_cons.mpr ⟨rfl, oB947⟩
theorem oB945 : ∀ w ∈ wB945, goodWord w = true := List.forall_mem_cons.mpr ⟨rfl, oB946⟩
theorem oB944 : ∀ w ∈ wB944, goodWord w = true := List.forall_mem_cons.mpr ⟨rfl, oB945⟩
theorem oB943 : ∀ w ∈ wB943, goodWord w = true := List.forall_mem_cons.mpr ⟨rfl, oB944⟩
theorem oB942 : ∀ w ∈ wB942, goodWord w = true := List.forall_mem_cons.mpr ⟨rfl, oB943⟩
theorem oB941 : ∀ w ∈ wB941, goodWord w = true := List.forall_mem_cons.mpr ⟨rfl, oB942⟩
theorem oB940 : ∀ w ∈ wB940, goodWord w = true := List.forall_mem_cons.mpr ⟨rfl, oB941⟩
theorem oB939 : ∀ w ∈ wB939, goodWord w = true := List.forall_mem_cons.mpr ⟨rfl, oB940⟩
theorem oB938 : ∀ w ∈ wB938, goodWord w = true := List.forall_mem_cons.mpr ⟨rfl, oB939⟩
theorem oB937 : ∀ w ∈ wB937, goodWord w = true := List.forall_mem_cons.mpr ⟨rfl, oB938⟩
theorem oB936 : ∀ w ∈ wB936, goodWord w = true := List.forall_mem_cons.mpr ⟨rfl, oB937⟩
theorem oB935 : ∀ w ∈ wB935, goodWord w = true := List.forall_mem_cons.mpr ⟨rfl, oB936⟩
theorem oB934 : ∀ w ∈ wB934, goodWord w = true := List.forall_mem_cons.mpr ⟨rfl, oB935⟩
theorem oB933 : ∀ w ∈ wB933, goodWord w = true := List.forall_mem_cons.mpr ⟨rfl, oB934⟩
theorem oB932 : ∀ w ∈ wB932, goodWord w = true := List.forall_mem_cons.mpr ⟨rfl, oB933⟩
theorem oB931 : ∀ w ∈ wB931, goodWord w = true := List.forall_mem_cons.mpr ⟨rfl, oB932⟩
theorem oB930 : ∀ w ∈ wB930, goodWord w = true := List.forall_mem_cons.mpr ⟨rfl, oB931⟩
theorem oB929 : ∀ w ∈ wB929, goodWord w = true := List.forall_mem_cons.mpr ⟨rfl, oB930⟩
theorem oB928 : ∀ w ∈ wB928, goodWord w = true := List.forall_mem_cons.mpr ⟨rfl, oB929⟩
theorem oB927 : ∀ w ∈ wB927, goodWord w = true := List.forall_mem_cons.mpr ⟨rfl, oB928⟩
theorem oB926 : ∀ w ∈ wB926, goodWord w = true := List.forall_mem_cons.mpr ⟨rfl, oB927⟩
theorem oB925 : ∀ w ∈ wB925, goodWord w = true := List.forall_mem_cons.mpr ⟨rfl, oB926⟩
theorem oB924 : ∀ w ∈ wB924, goodWord w = true := List.forall_mem_cons.mpr ⟨rfl, oB925⟩
theorem oB923 : ∀ w ∈ wB923, goodWord w = true := List.forall_mem_cons.mpr ⟨rfl, oB924⟩
theorem oB922 : ∀ w ∈ wB922, goodWord w = true := List.forall_mem_cons.mpr ⟨rfl, oB923⟩
theorem oB921 : ∀ w ∈ wB921, goodWord w = true := List.forall_mem_cons.mpr ⟨rfl, oB922⟩
theorem oB920 : ∀ w ∈ wB920, goodWord w = true := List.forall_mem_cons.mpr ⟨rfl, oB921⟩
theorem oB919 : ∀ w ∈ wB919, goodWord w = true := List.forall_mem_cons.mpr ⟨rfl, oB920⟩
theorem oB918 : ∀ w ∈ wB918, goodWord w = true := List.forall_mem_cons.mpr ⟨rfl, oB919⟩
theorem oB917 : ∀ w ∈ wB917, goodWord w = true := List.forall_mem_cons.mpr ⟨rfl, oB918⟩
theorem oB916 : ∀ w ∈ wB916, goodWord w = true := List.forall_mem_cons.mpr ⟨rfl, oB917⟩
theorem oB915 : ∀ w ∈ wB915, goodWord w = true := List.forall_mem_cons.mpr ⟨rfl, oB916⟩
theorem oB914 : ∀ w ∈ wB914, goodWord w = true := List.forall_mem_cons.mpr ⟨rfl, oB915⟩
theorem oB913 : ∀ w ∈ wB913, goodWord w = true := List.forall_mem_cons.mpr ⟨rfl, oB914⟩
theorem oB912 : ∀ w ∈ wB912, goodWord w = true := List.forall_mem_cons.mpr ⟨rfl, oB913⟩
theorem oB911 : ∀ w ∈ wB911, goodWord w = true := List.forall_mem_cons.mpr ⟨rfl, oB912⟩
theorem oB910 : ∀ w ∈ wB910, goodWord w = true := List.forall_mem_cons.mpr ⟨rfl, oB911⟩
theorem oB909 : ∀ w ∈ wB909, goodWord w = true := List.forall_mem_cons.mpr ⟨rfl, oB910⟩
theorem oB908 : ∀ w ∈ wB908, goodWord w = true := List.forall_mem_cons.mpr ⟨rfl, oB909⟩
theorem oB907 : ∀ w ∈ wB907, goodWord w = true := List.forall_mem_cons.mpr ⟨rfl, oB908⟩
theorem oB906 : ∀ w ∈ wB906, goodWord w = true := List.forall_mem_cons.mpr ⟨rfl, oB907⟩
theorem oB905 : ∀ w ∈ wB905, goodWord w = true := List.forall_mem_cons.mpr ⟨rfl, oB906⟩
theorem oB904 : ∀ w ∈ wB904, goodWord w = true := List.forall_mem_cons.mpr ⟨rfl, oB905⟩
theorem oB903 : ∀ w ∈ wB903, goodWord w = true := List.forall_mem_cons.mpr ⟨rfl, oB904⟩
theorem oB902 : ∀ w ∈ wB902, goodWord w = true := List.forall_mem_cons.mpr ⟨rfl, oB903⟩
theorem oB901 : ∀ w ∈ wB901, goodWord w = true := List.forall_mem_cons.mpr ⟨rfl, oB902⟩
theorem oB900 : ∀ w ∈ wB900, goodWord w = true := List.forall_mem_cons.mpr ⟨rfl, oB901⟩
theorem oB899 : ∀ w ∈ wB899, goodWord w = true := List.forall_mem_cons.mpr ⟨rfl, oB900⟩
theorem oB898 : ∀ w ∈ wB898, goodWord w = true := List.forall_mem_cons.mpr ⟨rfl, oB899⟩
theorem oB897 : ∀ w ∈ wB897, goodWord w = true := List.forall_mem_cons.mpr ⟨rfl, oB898⟩
theorem oB896 : ∀ w ∈ wB896, goodWord w = true := List.forall_mem_cons.mpr ⟨rfl, oB897⟩
theorem oB895 : ∀ w ∈ wB895, goodWord w = true := List.forall_mem_cons.mpr ⟨rfl, oB896⟩
theorem oB894 : ∀ w ∈ wB894, goodWord w = true := List.forall_mem_cons.mpr ⟨rfl, oB895⟩
theorem oB893 : ∀ w ∈ wB893, goodWord w = true := List.forall_mem_cons.mpr ⟨rfl, oB894⟩
theorem oB892 : ∀ w ∈ wB892, goodWord w = true := List.forall_mem_cons.mpr ⟨rfl, oB893⟩
theorem oB891 : ∀ w ∈ wB891, goodWord w = true := List.forall_mem_cons.mpr ⟨rfl, oB892⟩
theorem oB890 : ∀ w ∈ wB890, goodWord w = true := List.forall_mem_cons.mpr ⟨rfl, oB891⟩
theorem oB889 : ∀ w ∈ wB889, goodWord w = true := List.forall_mem_cons.mpr ⟨rfl, oB890⟩
theorem oB888 : ∀ w ∈ wB888, goodWord w = true := List.forall_mem_cons.mpr ⟨rfl, oB889⟩
theorem oB887 : ∀ w ∈ wB887, goodWord w = true := List.forall_mem_cons.mpr ⟨rfl, oB888⟩
theorem oB886 : ∀ w ∈ wB886, goodWord w = true := List.forall_mem_cons.mpr ⟨rfl, oB887⟩
theorem oB885 : ∀ w ∈ wB885, goodWord w = true := List.forall_mem_cons.mpr ⟨rfl, oB886⟩
theorem oB884 : ∀ w ∈ wB884, goodWord w = true := List.forall_mem_cons.mpr ⟨rfl, oB885⟩
theorem oB883 : ∀ w ∈ wB883, goodWord w = true := List.forall_mem_cons.mpr ⟨rfl, oB884⟩
theorem oB882 : ∀ w ∈ wB882, goodWord w = true := List.forall_mem_cons.mpr ⟨rfl, oB883⟩
theorem oB881 : ∀ w ∈ wB881, goodWord w = true := List.forall_mem_cons.mpr ⟨rfl, oB882⟩
theorem oB880 : ∀ w ∈ wB880, goodWord w = true := List.forall_mem_cons.mpr ⟨rfl, oB881⟩
theorem oB879 : ∀ w ∈ wB879, goodWord w = true := List.forall_mem_cons.mpr ⟨rfl, oB880⟩
theorem oB878 : ∀ w ∈ wB878, goodWord w = true := List.forall_mem_cons.mpr ⟨rfl, oB879⟩
theorem oB877 : ∀ w ∈ wB877, goodWord w = true := List.forall_mem_cons.mpr ⟨rfl, oB878⟩
theorem oB876 : ∀ w ∈ wB876, goodWord w = true := List.forall_mem_cons.mpr ⟨rfl, oB877⟩
theorem oB875 : ∀ w ∈ wB875, goodWord w = true := List.forall_mem_cons.mpr ⟨rfl, oB876⟩
theorem oB874 : ∀ w ∈ wB874, goodWord w = true := List.forall_mem_cons.mpr ⟨rfl, oB875⟩
theorem oB873 : ∀ w ∈ wB873, goodWord w = true := List.forall_mem_cons.mpr ⟨rfl, oB874⟩
theorem oB872 : ∀ w ∈ wB872, goodWord w = true := List.forall_mem_cons.mpr ⟨rfl, oB873⟩
theorem oB871 : ∀ w ∈ wB871, goodWord w = true := List.forall_mem_cons.mpr ⟨rfl, oB872⟩
theorem oB870 : ∀ w ∈ wB870, goodWord w = true := List.forall_mem_cons.mpr ⟨rfl, oB871⟩
theorem oB869 : ∀ w ∈ wB869, goodWord w = true := List.forall_mem_cons.mpr ⟨rfl, oB870⟩
theorem oB868 : ∀ w ∈ wB868, goodWord w = true := List.forall_mem_cons.mpr ⟨rfl, oB869⟩
theorem oB867 : ∀ w ∈ wB867, goodWord w = true := List.forall_mem_cons.mpr ⟨rfl, oB868⟩
theorem oB866 : ∀ w ∈ wB866, goodWord w = true := List.forall_mem_cons.mpr ⟨rfl, oB867⟩
theorem oB865 : ∀ w ∈ wB865, goodWord w = true := List.forall_mem_cons.mpr ⟨rfl, oB866⟩
theorem oB864 : ∀ w ∈ wB864, goodWord w = true := List.forall_mem_cons.mpr ⟨rfl, oB865⟩
theorem oB863 : ∀ w ∈ wB863, goodWord w = true := List.forall_mem_cons.mpr ⟨rfl, oB864⟩
theorem oB862 : ∀ w ∈ wB862, goodWord w = true := List.forall_mem_cons.mpr ⟨rfl, oB863⟩
theorem oB861 : ∀ w ∈ wB861, goodWord w = true := List.forall_mem_cons.mpr ⟨rfl, oB862⟩
theorem oB860 : ∀ w ∈ wB860, goodWord w = true := List.forall_mem_cons.mpr ⟨rfl, oB861⟩
theorem oB859 : ∀ w ∈ wB859, goodWord w = true := List.forall_mem_cons.mpr ⟨rfl, oB860⟩
theorem oB858 : ∀ w ∈ wB858, goodWord w = true := List.forall_mem_cons.mpr ⟨rfl, oB859⟩
theorem oB857 : ∀ w ∈ wB857, goodWord w = true := List.forall_mem_cons.mpr ⟨rfl, oB858⟩
theorem oB856 : ∀ w ∈ wB856, goodWord w = true := List.forall_mem_cons.mpr ⟨rfl, oB857⟩
theorem oB855 : ∀ w ∈ wB855, goodWord w = true := List.forall_mem_cons.mpr ⟨rfl, oB856⟩
theorem oB854 : ∀ w ∈ wB854, goodWord w = true := List.forall_mem_cons.mpr ⟨rfl, oB855⟩
theorem oB853 : ∀ w ∈ wB853, goodWord w = true := List.forall_mem_cons.mpr ⟨rfl, oB854⟩
theorem oB852 : ∀ w ∈ wB852, goodWord w = true := List.forall_mem_cons.mpr ⟨rfl, oB853⟩
theorem oB851 : ∀ w ∈ wB851, goodWord w = true := List.forall_mem_cons.mpr ⟨rfl, oB852⟩
theorem oB850 : ∀ w ∈ wB850, goodWord w = true := List.forall_mem_cons.mpr ⟨rfl, oB851⟩
theorem oB849 : ∀ w ∈ wB849, goodWord w = true := List.forall_mem_cons.mpr ⟨rfl, oB850⟩
theorem oB848 : ∀ w ∈ wB848, goodWord w = true := List.forall_mem_cons.mpr ⟨rfl, oB849⟩
theorem oB847 : ∀ w ∈ wB847, goodWord w = true := List.forall_mem_cons.mpr ⟨rfl, oB848⟩
theorem oB846 : ∀ w ∈ wB846, goodWord w = true := List.forall_mem_cons.mpr ⟨rfl, oB847⟩
theorem oB845 : ∀ w ∈ wB845, goodWord w = true := List.forall_mem_cons.mpr ⟨rfl, oB846⟩
theorem oB844 : ∀ w ∈ wB844, goodWord w = true := List.forall_mem_cons.mpr ⟨rfl, oB845⟩
theorem oB843 : ∀ w ∈ wB843, goodWord w = true := List.forall_mem_cons.mpr ⟨rfl, oB844⟩
theorem oB842 : ∀ w ∈ wB842, goodWord w = true := List.forall_mem_cons.mpr ⟨rfl, oB843⟩
theorem oB841 : ∀ w ∈ wB841, goodWord w = true := List.forall_mem_cons.mpr ⟨rfl, oB842⟩
theorem oB840 : ∀ w ∈ wB840, goodWord w = true := List.forall_mem_cons.mpr ⟨rfl, oB841⟩
theorem oB839 : ∀ w ∈ wB839, goodWord w = true := List.forall_mem_cons.mpr ⟨rfl, oB840⟩
theorem oB838 : ∀ w ∈ wB838, goodWord w = true := List.forall_mem_cons.mpr ⟨rfl, oB839⟩
theorem oB837 : ∀ w ∈ wB837, goodWord w = true := List.forall_mem_cons.mpr ⟨rfl, oB838⟩
theorem oB836 : ∀ w ∈ wB836, goodWord w = true := List.forall_mem_cons.mpr ⟨rfl, oB837⟩
theorem oB835 : ∀ w ∈ wB835, goodWord w = true := List.forall_mem_cons.mpr ⟨rfl, oB836⟩
theorem oB834 : ∀ w ∈ wB834, goodWord w = true := List.forall_mem_cons.mpr ⟨rfl, oB835⟩
theorem oB833 : ∀ w ∈ wB833, goodWord w = true := List.forall_mem_cons.mpr ⟨rfl, oB834⟩
theorem oB832 : ∀ w ∈ wB832, goodWord w = true := List.forall_mem_cons.mpr ⟨rfl, oB833⟩
theorem oB831 : ∀ w ∈ wB831, goodWord w = true := List.forall_mem_cons.mpr ⟨rfl, oB832⟩
theorem oB830 : ∀ w ∈ wB830, goodWord w = true := List.forall_mem_cons.mpr ⟨rfl, oB831⟩
theorem oB829 : ∀ w ∈ wB829, goodWord w = true := List.forall_mem_cons.mpr ⟨rfl, oB830⟩
theorem oB828 : ∀ w ∈ wB828, goodWord w = true := List.forall_mem_cons.mpr ⟨rfl, oB829⟩
theorem oB827 : ∀ w ∈ wB827, goodWord w = true := List.forall_mem_cons.mpr ⟨rfl, oB828⟩
theorem oB826 : ∀ w ∈ wB826, goodWord w = true := List.forall_mem_cons.mpr ⟨rfl, oB827⟩
theorem oB825 : ∀ w ∈ wB825, goodWord w = true := List.forall_mem_cons.mpr ⟨rfl, oB826⟩
theorem oB824 : ∀ w ∈ wB824, goodWord w = true := List.forall_mem_cons.mpr ⟨rfl, oB825⟩
theorem oB823 : ∀ w ∈ wB823, goodWord w = true := List.forall_mem_cons.mpr ⟨rfl, oB824⟩
theorem oB822 : ∀ w ∈ wB822, goodWord w = true := List.forall_mem_cons.mpr ⟨rfl, oB823⟩
theorem oB821 : ∀ w ∈ wB821, goodWord w = true := List.forall_mem_cons.mpr ⟨rfl, oB822⟩
theorem oB820 : ∀ w ∈ wB820, goodWord w = true := List.forall_mem_cons.mpr ⟨rfl, oB821⟩
theorem oB819 : ∀ w ∈ wB819, goodWord w = true := List.forall_mem_cons.mpr ⟨rfl, oB820⟩
theorem oB818 : ∀ w ∈ wB818, goodWord w = true := List.forall_mem_cons.mpr ⟨rfl, oB819⟩
theorem oB817 : ∀ w ∈ wB817, goodWord w = true := List.forall_mem_cons.mpr ⟨rfl, oB818⟩
theorem oB816 : ∀ w ∈ wB816, goodWord w = true := List.forall_mem_cons.mpr ⟨rfl, oB817⟩
theorem oB815 : ∀ w ∈ wB815, goodWord w = true := List.forall_mem_cons.mpr ⟨rfl, oB816⟩
theorem oB814 : ∀ w ∈ wB814, goodWord w = true := List.forall_mem_cons.mpr ⟨rfl, oB815⟩
theorem oB813 : ∀ w ∈ wB813, goodWord w = true := List.forall_mem_cons.mpr ⟨rfl, oB814⟩
theorem oB812 : ∀ w ∈ wB812, goodWord w = true := List.forall_mem_cons.mpr ⟨rfl, oB813⟩
theorem oB811 : ∀ w ∈ wB811, goodWord w = true := List.forall_mem_cons.mpr ⟨rfl, oB812⟩
theorem oB810 : ∀ w ∈ wB810, goodWord w = true := List.forall_mem_cons.mpr ⟨rfl, oB811⟩
theorem oB809 : ∀ w ∈ wB809, goodWord w = true := List.forall_mem_cons.mpr ⟨rfl, oB810⟩
theorem oB808 : ∀ w ∈ wB808, goodWord w = true := List.forall_mem_cons.mpr ⟨rfl, oB809⟩
theorem oB807 : ∀ w ∈ wB807, goodWord w = true := List.forall_mem_cons.mpr ⟨rfl, oB808⟩
theorem oB806 : ∀ w ∈ wB806, goodWord w = true := List.forall_mem_cons.mpr ⟨rfl, oB807⟩
theorem oB805 : ∀ w ∈ wB805, goodWord w = true := List.forall_mem_cons.mpr ⟨rfl, oB806⟩
theorem oB804 : ∀ w ∈ wB804, goodWord w = true := List.forall_mem_cons.mpr ⟨rfl, oB805⟩
theorem oB803 : ∀ w ∈ wB803, goodWord w = true := List.forall_mem_cons.mpr ⟨rfl, oB804⟩
theorem oB802 : ∀ w ∈ wB802, goodWord w = true := List.forall_mem_cons.mpr ⟨rfl, oB803⟩
theorem oB801 : ∀ w ∈ wB801, goodWord w = true := List.forall_mem_cons.mpr ⟨rfl, oB802⟩
theorem oB800 : ∀ w ∈ wB800, goodWord w = true := List.forall_mem_cons.mpr ⟨rfl, oB801⟩
theorem oB799 : ∀ w ∈ wB799, goodWord w = true := List.forall_mem_cons.mpr ⟨rfl, oB800⟩
theorem oB798 : ∀ w ∈ wB798, goodWord w = true := List.forall_mem_cons.mpr ⟨rfl, oB799⟩
theorem oB797 : ∀ w ∈ wB797, goodWord w = true := List.forall_mem_cons.mpr ⟨rfl, oB798⟩
theorem oB796 : ∀ w ∈ wB796, goodWord w = true := List.forall_mem_cons.mpr ⟨rfl, oB797⟩
theorem oB795 : ∀ w ∈ wB795, goodWord w = true := List.forall_mem_cons.mpr ⟨rfl, oB796⟩
theorem oB794 : ∀ w ∈ wB794, goodWord w = true := List.forall_mem_cons.mpr ⟨rfl, oB795⟩
theorem oB793 : ∀ w ∈ wB793, goodWord w = true := List.forall_mem_cons.mpr ⟨rfl, oB794⟩
theorem oB792 : ∀ w ∈ wB792, goodWord w = true := List.forall_mem_cons.mpr ⟨rfl, oB793⟩
theorem oB791 : ∀ w ∈ wB791, goodWord w = true := List.forall_mem_cons.mpr ⟨rfl, oB792⟩
theorem oB790 : ∀ w ∈ wB790, goodWord w = true := List.forall_mem_cons.mpr ⟨rfl, oB791⟩
theorem oB789 : ∀ w ∈ wB789, goodWord w = true := List.forall_mem_cons.mpr ⟨rfl, oB790⟩
theorem oB788 : ∀ w ∈ wB788, goodWord w = true := List.forall_mem_cons.mpr ⟨rfl, oB789⟩
theorem oB787 : ∀ w ∈ wB787, goodWord w = true := List.forall_mem_cons.mpr ⟨rfl, oB788⟩
theorem oB786 : ∀ w ∈ wB786, goodWord w = true := List.forall_mem_cons.mpr ⟨rfl, oB787⟩
theorem oB785 : ∀ w ∈ wB785, goodWord w = true := List.forall_mem_cons.mpr ⟨rfl, oB786⟩
theorem oB784 : ∀ w ∈ wB784, goodWord w = true := List.forall_mem_cons.mpr ⟨rfl, oB785⟩
theorem oB783 : ∀ w ∈ wB783, goodWord w = true := List.forall_mem_cons.mpr ⟨rfl, oB784⟩
theorem oB782 : ∀ w ∈ wB782, goodWord w = true := List.forall_mem_cons.mpr ⟨rfl, oB783⟩
theorem oB781 : ∀ w ∈ wB781, goodWord w = true := List.forall_mem_cons.mpr ⟨rfl, oB782⟩
theorem oB780 : ∀ w ∈ wB780, goodWord w = true := List.forall_mem_cons.mpr ⟨rfl, oB781⟩
theorem oB779 : ∀ w ∈ wB779, goodWord w = true := List.forall_mem_cons.mpr ⟨rfl, oB780⟩
theorem oB778 : ∀ w ∈ wB778, goodWord w = true := List.forall_mem_cons.mpr ⟨rfl, oB779⟩
theorem oB777 : ∀ w ∈ wB777, goodWord w = true := List.forall_mem_cons.mpr ⟨rfl, oB778⟩
theorem oB776 : ∀ w ∈ wB776, goodWord w = true := List.forall_mem_cons.mpr ⟨rfl, oB777⟩
theorem oB775 : ∀ w ∈ wB775, goodWord w = true := List.forall_mem_cons.mpr ⟨rfl, oB776⟩
theorem oB774 : ∀ w ∈ wB774, goodWord w = true := List.forall_mem_cons.mpr ⟨rfl, oB775⟩
theorem oB773 : ∀ w ∈ wB773, goodWord w = true := List.forall_mem_cons.mpr ⟨rfl, oB774⟩
theorem oB772 : ∀ w ∈ wB772, goodWord w = true := List.forall_mem_cons.mpr ⟨rfl, oB773⟩
theorem oB771 : ∀ w ∈ wB771, goodWord w = true := List.forall_mem_cons.mpr ⟨rfl, oB772⟩
theorem oB770 : ∀ w ∈ wB770, goodWord w = true := List.forall_mem_cons.mpr ⟨rfl, oB771⟩
theorem oB769 : ∀ w ∈ wB769, goodWord w = true := List.forall_mem_cons.mpr ⟨rfl, oB770⟩
theorem oB768 : ∀ w ∈ wB768, goodWord w = true := List.forall_mem_cons.mpr ⟨rfl, oB769⟩
theorem oB767 : ∀ w ∈ wB767, goodWord w = true := List.forall_mem_cons.mpr ⟨rfl, oB768⟩
theorem oB766 : ∀ w ∈ wB766, goodWord w = true := List.forall_mem_cons.mpr ⟨rfl, oB767⟩
theorem oB765 : ∀ w ∈ wB765, goodWord w = true := List.forall_mem_cons.mpr ⟨rfl, oB766⟩
theorem oB764 : ∀ w ∈ wB764, goodWord w = true := List.forall_mem_cons.mpr ⟨rfl, oB765⟩
theorem oB763 : ∀ w ∈ wB763, goodWord w = true := List.forall_mem_cons.mpr ⟨rfl, oB764⟩
theorem oB762 : ∀ w ∈ wB762, goodWord w = true := List.forall_mem_cons.mpr ⟨rfl, oB763⟩
theorem oB761 : ∀ w ∈ wB761, goodWord w = true := List.forall_mem_cons.mpr ⟨rfl, oB762⟩
theorem oB760 : ∀ w ∈ wB760, goodWord w = true := List.forall_mem_cons.mpr ⟨rfl, oB761⟩
theorem oB759 : ∀ w ∈ wB759, goodWord w = true := List.forall_mem_cons.mpr ⟨rfl, oB760⟩
theorem oB758 : ∀ w ∈ wB758, goodWord w = true := List.forall_mem_cons.mpr ⟨rfl, oB759⟩
theorem oB757 : ∀ w ∈ wB757, goodWord w = true := List.forall_mem_cons.mpr ⟨rfl, oB758⟩
theorem oB756 : ∀ w ∈ wB756, goodWord w = true := List.forall_mem_cons.mpr ⟨rfl, oB757⟩
theorem oB755 : ∀ w ∈ wB755, goodWord w = true := List.forall_mem_cons.mpr ⟨rfl, oB756⟩
theorem oB754 : ∀ w ∈ wB754, goodWord w = true := List.forall_mem_cons.mpr ⟨rfl, oB755⟩
theorem oB753 : ∀ w ∈ wB753, goodWord w = true := List.forall_mem_cons.mpr ⟨rfl, oB754⟩
theorem oB752 : ∀ w ∈ wB752, goodWord w = true := List.forall_mem_cons.mpr ⟨rfl, oB753⟩
theorem oB751 : ∀ w ∈ wB751, goodWord w = true := List.forall_mem_cons.mpr ⟨rfl, oB752⟩
theorem oB750 : ∀ w ∈ wB750, goodWord w = true := List.forall_mem_cons.mpr ⟨rfl, oB751⟩
theorem oB749 : ∀ w ∈ wB749, goodWord w = true := List.forall_mem_cons.mpr ⟨rfl, oB750⟩
theorem oB748 : ∀ w ∈ wB748, goodWord w = true := List.forall_mem_cons.mpr ⟨rfl, oB749⟩
theorem oB747 : ∀ w ∈ wB747, goodWord w = true := List.forall_mem_cons.mpr ⟨rfl, oB748⟩
theorem oB746 : ∀ w ∈ wB746, goodWord w = true := List.forall_mem_cons.mpr ⟨rfl, oB747⟩
theorem oB745 : ∀ w ∈ wB745, goodWord w = true := List.forall_mem_cons.mpr ⟨rfl, oB746⟩
theorem oB744 : ∀ w ∈ wB744, goodWord w = true := List.forall_mem_cons.mpr ⟨rfl, oB745⟩
theorem oB743 : ∀ w ∈ wB743, goodWord w = true := List.forall_mem_cons.mpr ⟨rfl, oB744⟩
theorem oB742 : ∀ w ∈ wB742, goodWord w = true := List.forall_mem_cons.mpr ⟨rfl, oB743⟩
theorem oB741 : ∀ w ∈ wB741, goodWord w = true := List.forall_mem_cons.mpr ⟨rfl, oB742⟩
theorem oB740 : ∀ w ∈ wB740, goodWord w = true := List.forall_mem_cons.mpr ⟨rfl, oB741⟩
theorem oB739 : ∀ w ∈ wB739, goodWord w = true := List.forall_mem_cons.mpr ⟨rfl, oB740⟩
theorem oB738 : ∀ w ∈ wB738, goodWord w = true := List.forall_mem_cons.mpr ⟨rfl, oB739⟩
theorem oB737 : ∀ w ∈ wB737, goodWord w = true := List.forall_mem_cons.mpr ⟨rfl, oB738⟩
theorem oB736 : ∀ w ∈ wB736, goodWord w = true := List.forall_mem_cons.mpr ⟨rfl, oB737⟩
theorem oB735 : ∀ w ∈ wB735, goodWord w = true := List.forall_mem_cons.mpr ⟨rfl, oB736⟩
theorem oB734 : ∀ w ∈ wB734, goodWord w = true := List.forall_mem_cons.mpr ⟨rfl, oB735⟩
theorem oB733 : ∀ w ∈ wB733, goodWord w = true := List.forall_mem_cons.mpr ⟨rfl, oB734⟩
theorem oB732 : ∀ w ∈ wB732, goodWord w = true := List.forall_mem_cons.mpr ⟨rfl, oB733⟩
theorem oB731 : ∀ w ∈ wB731, goodWord w = true := List.forall_mem_cons.mpr ⟨rfl, oB732⟩
theorem oB730 : ∀ w ∈ wB730, goodWord w = true := List.forall_mem_cons.mpr ⟨rfl, oB731⟩
theorem oB729 : ∀ w ∈ wB729, goodWord w = true := List.forall_mem_cons.mpr ⟨rfl, oB730⟩
theorem oB728 : ∀ w ∈ wB728, goodWord w = true := List.forall_mem_cons.mpr ⟨rfl, oB729⟩
theorem oB727 : ∀ w ∈ wB727, goodWord w = true := List.forall_mem_cons.mpr ⟨rfl, oB728⟩
theorem oB726 : ∀ w ∈ wB726, goodWord w = true := List.forall_mem_cons.mpr ⟨rfl, oB727⟩
theorem oB725 : ∀ w ∈ wB725, goodWord w = true := List.forall_mem_cons.mpr ⟨rfl, oB726⟩
theorem oB724 : ∀ w ∈ wB724, goodWord w = true := List.forall_mem_cons.mpr ⟨rfl, oB725⟩
theorem oB723 : ∀ w ∈ wB723, goodWord w = true := List.forall_mem_cons.mpr ⟨rfl, oB724⟩
theorem oB722 : ∀ w ∈ wB722, goodWord w = true := List.forall_mem_cons.mpr ⟨rfl, oB723⟩
theorem oB721 : ∀ w ∈ wB721, goodWord w = true := List.forall_mem_cons.mpr ⟨rfl, oB722⟩
theorem oB720 : ∀ w ∈ wB720, goodWord w = true := List.forall_mem_cons.mpr ⟨rfl, oB721⟩
theorem oB719 : ∀ w ∈ wB719, goodWord w = true := List.forall_mem_cons.mpr ⟨rfl, oB720⟩
theorem oB718 : ∀ w ∈ wB718, goodWord w = true := List.forall_mem_cons.mpr ⟨rfl, oB719⟩
theorem oB717 : ∀ w ∈ wB717, goodWord w = true := List.forall_mem_cons.mpr ⟨rfl, oB718⟩
theorem oB716 : ∀ w ∈ wB716, goodWord w = true := List.forall_mem_cons.mpr ⟨rfl, oB717⟩
theorem oB715 : ∀ w ∈ wB715, goodWord w = true := List.forall_mem_cons.mpr ⟨rfl, oB716⟩
theorem oB714 : ∀ w ∈ wB714, goodWord w = true := List.forall_mem_cons.mpr ⟨rfl, oB715⟩
theorem oB713 : ∀ w ∈ wB713, goodWord w = true := List.forall_mem_cons.mpr ⟨rfl, oB714⟩
theorem oB712 : ∀ w ∈ wB712, goodWord w = true := List.forall_mem_cons.mpr ⟨rfl, oB713⟩
theorem oB711 : ∀ w ∈ wB711, goodWord w = true := List.forall_mem_cons.mpr ⟨rfl, oB712⟩
theorem oB710 : ∀ w ∈ wB710, goodWord w = true := List.forall_mem_cons.mpr ⟨rfl, oB711⟩
theorem oB709 : ∀ w ∈ wB709, goodWord w = true := List.forall_mem_cons.mpr ⟨rfl, oB710⟩
theorem oB708 : ∀ w ∈ wB708, goodWord w = true := List.forall_mem_cons.mpr ⟨rfl, oB709⟩
theorem oB707 : ∀ w ∈ wB707, goodWord w = true := List.forall_mem_cons.mpr ⟨rfl, oB708⟩
theorem oB706 : ∀ w ∈ wB706, goodWord w = true := List.forall_mem_cons.mpr ⟨rfl, oB707⟩
theorem oB705 : ∀ w ∈ wB705, goodWord w = true := List.forall_mem_cons.mpr ⟨rfl, oB706⟩
theorem oB704 : ∀ w ∈ wB704, goodWord w = true := List.forall_mem_cons.mpr ⟨rfl, oB705⟩
theorem oB703 : ∀ w ∈ wB703, goodWord w = true := List.forall_mem_cons.mpr ⟨rfl, oB704⟩
theorem oB702 : ∀ w ∈ wB702, goodWord w = true := List.forall_mem_cons.mpr ⟨rfl, oB703⟩
theorem oB701 : ∀ w ∈ wB701, goodWord w = true := List.forall_mem_cons.mpr ⟨rfl, oB702⟩
theorem oB700 : ∀ w ∈ wB700, goodWord w = true := List.forall_mem_cons.mpr ⟨rfl, oB701⟩
theorem oB699 : ∀ w ∈ wB699, goodWord w = true := List.forall_mem_cons.mpr ⟨rfl, oB700⟩
theorem oB698 : ∀ w ∈ wB698, goodWord w = true := List.forall_mem_cons.mpr ⟨rfl, oB699⟩
theorem oB697 : ∀ w ∈ wB697, goodWord w = true := List.forall_mem_cons.mpr ⟨rfl, oB698⟩
theorem oB696 : ∀ w ∈ wB696, goodWord w = true := List.forall_mem_cons.mpr ⟨rfl, oB697⟩
theorem oB695 : ∀ w ∈ wB695, goodWord w = true := List.forall_mem_cons.mpr ⟨rfl, oB696⟩
theorem oB694 : ∀ w ∈ wB694, goodWord w = true := List.forall_mem_cons.mpr ⟨rfl, oB695⟩
theorem oB693 : ∀ w ∈ wB693, goodWord w = true := List.forall_mem_cons.mpr ⟨rfl, oB694⟩
theorem oB692 : ∀ w ∈ wB692, goodWord w = true := List.forall_mem_cons.mpr ⟨rfl, oB693⟩
theorem oB691 : ∀ w ∈ wB691, goodWord w = true := List.forall_mem_cons.mpr ⟨rfl, oB692⟩
theorem oB690 : ∀ w ∈ wB690, goodWord w = true := List.forall_mem_cons.mpr ⟨rfl, oB691⟩
theorem oB689 : ∀ w ∈ wB689, goodWord w = true := List.forall_mem_cons.mpr ⟨rfl, oB690⟩
theorem oB688 : ∀ w ∈ wB688, goodWord w = true := List.forall_mem_cons.mpr ⟨rfl, oB689⟩
theorem oB687 : ∀ w ∈ wB687, goodWord w = true := List.forall_mem_cons.mpr ⟨rfl, oB688⟩
theorem oB686 : ∀ w ∈ wB686, goodWord w = true := List.forall_mem_cons.mpr ⟨rfl, oB687⟩
theorem oB685 : ∀ w ∈ wB685, goodWord w = true := List.forall_mem_cons.mpr ⟨rfl, oB686⟩
theorem oB684 : ∀ w ∈ wB684, goodWord w = true := List.forall_mem_cons.mpr ⟨rfl, oB685⟩
theorem oB683 : ∀ w ∈ wB683, goodWord w = true := List.forall_mem_cons.mpr ⟨rfl, oB684⟩
theorem oB682 : ∀ w ∈ wB682, goodWord w = true := List.forall_mem_cons.mpr ⟨rfl, oB683⟩
theorem oB681 : ∀ w ∈ wB681, goodWord w = true := List.forall_mem_cons.mpr ⟨rfl, oB682⟩
theorem oB680 : ∀ w ∈ wB680, goodWord w = true := List.forall_mem_cons.mpr ⟨rfl, oB681⟩
theorem oB679 : ∀ w ∈ wB679, goodWord w = true := List.forall_mem_cons.mpr ⟨rfl, oB680⟩
theorem oB678 : ∀ w ∈ wB678, goodWord w = true := List.forall_mem_cons.mpr ⟨rfl, oB679⟩
theorem oB677 : ∀ w ∈ wB677, goodWord w = true := List.forall_mem_cons.mpr ⟨rfl, oB678⟩
theorem oB676 : ∀ w ∈ wB676, goodWord w = true := List.forall_mem_cons.mpr ⟨rfl, oB677⟩
theorem oB675 : ∀ w ∈ wB675, goodWord w = true := List.forall_mem_cons.mpr ⟨rfl, oB676⟩
theorem oB674 : ∀ w ∈ wB674, goodWord w = true := List.forall_mem_cons.mpr ⟨rfl, oB675⟩
theorem oB673 : ∀ w ∈ wB673, goodWord w = true := List.forall_mem_cons.mpr ⟨rfl, oB674⟩
theorem oB672 : ∀ w ∈ wB672, goodWord w = true := List.forall_mem_cons.mpr ⟨rfl, oB673⟩
theorem oB671 : ∀ w ∈ wB671, goodWord w = true := List.forall_mem_cons.mpr ⟨rfl, oB672⟩
theorem oB670 : ∀ w ∈ wB670, goodWord w = true := List.forall_mem_cons.mpr ⟨rfl, oB671⟩
theorem oB669 : ∀ w ∈ wB669, goodWord w = true := List.forall_mem_cons.mpr ⟨rfl, oB670⟩
theorem oB668 : ∀ w ∈ wB668, goodWord w = true := List.forall_mem_cons.mpr ⟨rfl, oB669⟩
theorem oB667 : ∀ w ∈ wB667, goodWord w = true := List.forall_mem_cons.mpr ⟨rfl, oB668⟩
theorem oB666 : ∀ w ∈ wB666, goodWord w = true := List.forall_mem_cons.mpr ⟨rfl, oB667⟩
theorem oB665 : ∀ w ∈ wB665, goodWord w = true := List.forall_mem_cons.mpr ⟨rfl, oB666⟩
theorem oB664 : ∀ w ∈ wB664, goodWord w = true := List.forall_mem_cons.mpr ⟨rfl, oB665⟩
theorem oB663 : ∀ w ∈ wB663, goodWord w = true := List.forall_mem_cons.mpr ⟨rfl, oB664⟩
theorem oB662 : ∀ w ∈ wB662, goodWord w = true := List.forall_mem_cons.mpr ⟨rfl, oB663⟩
theorem oB661 : ∀ w ∈ wB661, goodWord w = true := List.forall_mem_cons.mpr ⟨rfl, oB662⟩
theorem oB660 : ∀ w ∈ wB660, goodWord w = true := List.forall_mem_cons.mpr ⟨rfl, oB661⟩
theorem oB659 : ∀ w ∈ wB659, goodWord w = true := List.forall_mem_cons.mpr ⟨rfl, oB660⟩
theorem oB658 : ∀ w ∈ wB658, goodWord w = true := List.forall_mem_cons.mpr ⟨rfl, oB659⟩
theorem oB657 : ∀ w ∈ wB657, goodWord w = true := List.forall_mem_cons.mpr ⟨rfl, oB658⟩
theorem oB656 : ∀ w ∈ wB656, goodWord w = true := List.forall_mem_cons.mpr ⟨rfl, oB657⟩
theorem oB655 : ∀ w ∈ wB655, goodWord w = true := List.forall_mem_cons.mpr ⟨rfl, oB656⟩
theorem oB654 : ∀ w ∈ wB654, goodWord w = true := List.forall_mem_cons.mpr ⟨rfl, oB655⟩
theorem oB653 : ∀ w ∈ wB653, goodWord w = true := List.forall_mem_cons.mpr ⟨rfl, oB654⟩
theorem oB652 : ∀ w ∈ wB652, goodWord w = true := List.forall_mem_cons.mpr ⟨rfl, oB653⟩
theorem oB651 : ∀ w ∈ wB651, goodWord w = true := List.forall_mem_cons.mpr ⟨rfl, oB652⟩
theorem oB650 : ∀ w ∈ wB650, goodWord w = true := List.forall_mem_cons.mpr ⟨rfl, oB651⟩
theorem oB649 : ∀ w ∈ wB649, goodWord w = true := List.forall_mem_cons.mpr ⟨rfl, oB650⟩
theorem oB648 : ∀ w ∈ wB648, goodWord w = true := List.forall_mem_cons.mpr ⟨rfl, oB649⟩
theorem oB647 : ∀ w ∈ wB647, goodWord w = true := List.forall_mem_cons.mpr ⟨rfl, oB648⟩
theorem oB646 : ∀ w ∈ wB646, goodWord w = true := List.forall_mem_cons.mpr ⟨rfl, oB647⟩
theorem oB645 : ∀ w ∈ wB645, goodWord w = true := List.forall_mem_cons.mpr ⟨rfl, oB646⟩
theorem oB644 : ∀ w ∈ wB644, goodWord w = true := List.forall_mem_cons.mpr ⟨rfl, oB645⟩
theorem oB643 : ∀ w ∈ wB643, goodWord w = true := List.forall_mem_cons.mpr ⟨rfl, oB644⟩
theorem oB642 : ∀ w ∈ wB642, goodWord w = true := List.forall_mem_cons.mpr ⟨rfl, oB643⟩
theorem oB641 : ∀ w ∈ wB641, goodWord w = true := List.forall_mem_cons.mpr ⟨rfl, oB642⟩
theorem oB640 : ∀ w ∈ wB640, goodWord w = true := List.forall_mem_cons.mpr ⟨rfl, oB641⟩
theorem oB639 : ∀ w ∈ wB639, goodWord w = true := List.forall_mem_cons.mpr ⟨rfl, oB640⟩
theorem oB638 : ∀ w ∈ wB638, goodWord w = true := List.forall_mem_cons.mpr ⟨rfl, oB639⟩
theorem oB637 : ∀ w ∈ wB637, goodWord w = true := List.forall_mem_cons.mpr ⟨rfl, oB638⟩
theorem oB636 : ∀ w ∈ wB636, goodWord w = true := List.forall_mem_cons.mpr ⟨rfl, oB637⟩
theorem oB635 : ∀ w ∈ wB635, goodWord w = true := List.forall_mem_cons.mpr ⟨rfl, oB636⟩
theorem oB634 : ∀ w ∈ wB634, goodWord w = true := List.forall_mem_cons.mpr ⟨rfl, oB635⟩
theorem oB633 : ∀ w ∈ wB633, goodWord w = true := List.forall_mem_cons.mpr ⟨rfl, oB634⟩
theorem oB632 : ∀ w ∈ wB632, goodWord w = true := List.forall_mem_cons.mpr ⟨rfl, oB633⟩
theorem oB631 : ∀ w ∈ wB631, goodWord w = true := List.forall_mem_cons.mpr ⟨rfl, oB632⟩
theorem oB630 : ∀ w ∈ wB630, goodWord w = true := List.forall_mem_cons.mpr ⟨rfl, oB631⟩
theorem oB629 : ∀ w ∈ wB629, goodWord w = true := List.forall_mem_cons.mpr ⟨rfl, oB630⟩
theorem oB628 : ∀ w ∈ wB628, goodWord w = true := List.forall_mem_cons.mpr ⟨rfl, oB629⟩
theorem oB627 : ∀ w ∈ wB627, goodWord w = true := List.forall_mem_cons.mpr ⟨rfl, oB628⟩
theorem oB626 : ∀ w ∈ wB626, goodWord w = true := List.forall_mem_cons.mpr ⟨rfl, oB627⟩
theorem oB625 : ∀ w ∈ wB625, goodWord w = true := List.forall_mem_cons.mpr ⟨rfl, oB626⟩
theorem oB624 : ∀ w ∈ wB624, goodWord w = true := List.forall_mem_cons.mpr ⟨rfl, oB625⟩
theorem oB623 : ∀ w ∈ wB623, goodWord w = true := List.forall_mem_cons.mpr ⟨rfl, oB624⟩
theorem oB622 : ∀ w ∈ wB622, goodWord w = true := List.forall_mem_cons.mpr ⟨rfl, oB623⟩
theorem oB621 : ∀ w ∈ wB621, goodWord w = true := List.forall_mem_cons.mpr ⟨rfl, oB622⟩
theorem oB620 : ∀ w ∈ wB620, goodWord w = true := List.forall_mem_cons.mpr ⟨rfl, oB621⟩
theorem oB619 : ∀ w ∈ wB619, goodWord w = true := List.forall_mem_cons.mpr ⟨rfl, oB620⟩
theorem oB618 : ∀ w ∈ wB618, goodWord w = true := List.forall_mem_cons.mpr ⟨rfl, oB619⟩
theorem oB617 : ∀ w ∈ wB617, goodWord w = true := List.forall_mem_cons.mpr ⟨rfl, oB618⟩
theorem oB616 : ∀ w ∈ wB616, goodWord w = true := List.forall_mem_cons.mpr ⟨rfl, oB617⟩
theorem oB615 : ∀ w ∈ wB615, goodWord w = true := List.forall_mem_cons.mpr ⟨rfl, oB616⟩
theorem oB614 : ∀ w ∈ wB614, goodWord w = true := List.forall_mem_cons.mpr ⟨rfl, oB615⟩
theorem oB613 : ∀ w ∈ wB613, goodWord w = true := List.forall_mem_cons.mpr ⟨rfl, oB614⟩
theorem oB612 : ∀ w ∈ wB612, goodWord w = true := List.forall_mem_cons.mpr ⟨rfl, oB613⟩
theorem oB611 : ∀ w ∈ wB611, goodWord w = true := List.forall_mem_cons.mpr ⟨rfl, oB612⟩
theorem oB610 : ∀ w ∈ wB610, goodWord w = true := List.forall_mem_cons.mpr ⟨rfl, oB611⟩
theorem oB609 : ∀ w ∈ wB609, goodWord w = true := List.forall_mem_cons.mpr ⟨rfl, oB610⟩
theorem oB608 : ∀ w ∈ wB608, goodWord w = true := List.forall_mem_cons.mpr ⟨rfl, oB609⟩
theorem oB607 : ∀ w ∈ wB607, goodWord w = true := List.forall_mem_cons.mpr ⟨rfl, oB608⟩
theorem oB606 : ∀ w ∈ wB606, goodWord w = true := List.forall_mem_cons.mpr ⟨rfl, oB607⟩
theorem oB605 : ∀ w ∈ wB605, goodWord w = true := List.forall_mem_cons.mpr ⟨rfl, oB606⟩
theorem oB604 : ∀ w ∈ wB604, goodWord w = true := List.forall_mem_cons.mpr ⟨rfl, oB605⟩
theorem oB603 : ∀ w ∈ wB603, goodWord w = true := List.forall_mem_cons.mpr ⟨rfl, oB604⟩
theorem oB602 : ∀ w ∈ wB602, goodWord w = true := List.forall_mem_cons.mpr ⟨rfl, oB603⟩
theorem oB601 : ∀ w ∈ wB601, goodWord w = true := List.forall_mem_cons.mpr ⟨rfl, oB602⟩
theorem oB600 : ∀ w ∈ wB600, goodWord w = true := List.forall_mem_cons.mpr ⟨rfl, oB601⟩
theorem oB599 : ∀ w ∈ wB599, goodWord w = true := List.forall_mem_cons.mpr ⟨rfl, oB600⟩
theorem oB598 : ∀ w ∈ wB598, goodWord w = true := List.forall_mem_cons.mpr ⟨rfl, oB599⟩
theorem oB597 : ∀ w ∈ wB597, goodWord w = true := List.forall_mem_cons.mpr ⟨rfl, oB598⟩
theorem oB596 : ∀ w ∈ wB596, goodWord w = true := List.forall_mem_cons.mpr ⟨rfl, oB597⟩
theorem oB595 : ∀ w ∈ wB595, goodWord w = true := List.forall_mem_cons.mpr ⟨rfl, oB596⟩
theorem oB594 : ∀ w ∈ wB594, goodWord w = true := List.forall_mem_cons.mpr ⟨rfl, oB595⟩
theorem oB593 : ∀ w ∈ wB593, goodWord w = true := List.forall_mem_cons.mpr ⟨rfl, oB594⟩
theorem oB592 : ∀ w ∈ wB592, goodWord w = true := List.forall_mem_cons.mpr ⟨rfl, oB593⟩
theorem oB591 : ∀ w ∈ wB591, goodWord w = true := List.forall_mem_cons.mpr ⟨rfl, oB592⟩
theorem oB590 : ∀ w ∈ wB590, goodWord w = true := List.forall_mem_cons.mpr ⟨rfl, oB591⟩
theorem oB589 : ∀ w ∈ wB589, goodWord w = true := List.forall_mem_cons.mpr ⟨rfl, oB590⟩
theorem oB588 : ∀ w ∈ wB588, goodWord w = true := List.forall_mem_cons.mpr ⟨rfl, oB589⟩
theorem oB587 : ∀ w ∈ wB587, goodWord w = true := List.forall_mem_cons.mpr ⟨rfl, oB588⟩
theorem oB586 : ∀ w ∈ wB586, goodWord w = true := List.forall_mem_cons.mpr ⟨rfl, oB587⟩
theorem oB585 : ∀ w ∈ wB585, goodWord w = true := List.forall_mem_cons.mpr ⟨rfl, oB586⟩
theorem oB584 : ∀ w ∈ wB584, goodWord w = true := List.forall_mem_cons.mpr ⟨rfl, oB585⟩
theorem oB583 : ∀ w ∈ wB583, goodWord w = true := List.forall_mem_cons.mpr ⟨rfl, oB584⟩
theorem oB582 : ∀ w ∈ wB582, goodWord w = true := List.forall_mem_cons.mpr ⟨rfl, oB583⟩
theorem oB581 : ∀ w ∈ wB581, goodWord w = true := List.forall_mem_cons.mpr ⟨rfl, oB582⟩
theorem oB580 : ∀ w ∈ wB580, goodWord w = true := List.forall_mem_cons.mpr ⟨rfl, oB581⟩
theorem oB579 : ∀ w ∈ wB579, goodWord w = true := List.forall_mem_cons.mpr ⟨rfl, oB580⟩
theorem oB578 : ∀ w ∈ wB578, goodWord w = true := List.forall_mem_cons.mpr ⟨rfl, oB579⟩
theorem oB577 : ∀ w ∈ wB577, goodWord w = true := List.forall_mem_cons.mpr ⟨rfl, oB578⟩
theorem oB576 : ∀ w ∈ wB576, goodWord w = true := List.forall_mem_cons.mpr ⟨rfl, oB577⟩
theorem oB575 : ∀ w ∈ wB575, goodWord w = true := List.forall_mem_cons.mpr ⟨rfl, oB576⟩
theorem oB574 : ∀ w ∈ wB574, goodWord w = true := List.forall_mem_cons.mpr ⟨rfl, oB575⟩
theorem oB573 : ∀ w ∈ wB573, goodWord w = true := List.forall_mem_cons.mpr ⟨rfl, oB574⟩
theorem oB572 : ∀ w ∈ wB572, goodWord w = true := List.forall_mem_cons.mpr ⟨rfl, oB573⟩
theorem oB571 : ∀ w ∈ wB571, goodWord w = true := List.forall_mem_cons.mpr ⟨rfl, oB572⟩
theorem oB570 : ∀ w ∈ wB570, goodWord w = true := List.forall_mem_cons.mpr ⟨rfl, oB571⟩
theorem oB569 : ∀ w ∈ wB569, goodWord w = true := List.forall_mem_cons.mpr ⟨rfl, oB570⟩
theorem oB568 : ∀ w ∈ wB568, goodWord w = true := List.forall_mem_cons.mpr ⟨rfl, oB569⟩
theorem oB567 : ∀ w ∈ wB567, goodWord w = true := List.forall_mem_cons.mpr ⟨rfl, oB568⟩
theorem oB566 : ∀ w ∈ wB566, goodWord w = true := List.forall_mem_cons.mpr ⟨rfl, oB567⟩
theorem oB565 : ∀ w ∈ wB565, goodWord w = true := List.forall_mem_cons.mpr ⟨rfl, oB566⟩
theorem oB564 : ∀ w ∈ wB564, goodWord w = true := List.forall_mem_cons.mpr ⟨rfl, oB565⟩
theorem oB563 : ∀ w ∈ wB563, goodWord w = true := List.forall_mem_cons.mpr ⟨rfl, oB564⟩
theorem oB562 : ∀ w ∈ wB562, goodWord w = true := List.forall_mem_cons.mpr ⟨rfl, oB563⟩
theorem oB561 : ∀ w ∈ wB561, goodWord w = true := List.forall_mem_cons.mpr ⟨rfl, oB562⟩
theorem oB560 : ∀ w ∈ wB560, goodWord w = true := List.forall_mem_cons.mpr ⟨rfl, oB561⟩
theorem oB559 : ∀ w ∈ wB559, goodWord w = true := List.forall_mem_cons.mpr ⟨rfl, oB560⟩
theorem oB558 : ∀ w ∈ wB558, goodWord w = true := List.forall_mem_cons.mpr ⟨rfl, oB559⟩
theorem oB557 : ∀ w ∈ wB557, goodWord w = true := List.forall_mem_cons.mpr ⟨rfl, oB558⟩
theorem oB556 : ∀ w ∈ wB556, goodWord w = true := List.forall_mem_cons.mpr ⟨rfl, oB557⟩
theorem oB555 : ∀ w ∈ wB555, goodWord w = true := List.forall_mem_cons.mpr ⟨rfl, oB556⟩
theorem oB554 : ∀ w ∈ wB554, goodWord w = true := List.forall_mem_cons.mpr ⟨rfl, oB555⟩
theorem oB553 : ∀ w ∈ wB553, goodWord w = true := List.forall_mem_cons.mpr ⟨rfl, oB554⟩
theorem oB552 : ∀ w ∈ wB552, goodWord w = true := List.forall_mem_cons.mpr ⟨rfl, oB553⟩
theorem oB551 : ∀ w ∈ wB551, goodWord w = true := List.forall_mem_cons.mpr ⟨rfl, oB552⟩
theorem oB550 : ∀ w ∈ wB550, goodWord w = true := List.forall_mem_cons.mpr ⟨rfl, oB551⟩
theorem oB549 : ∀ w ∈ wB549, goodWord w = true := List.forall_mem_cons.mpr ⟨rfl, oB550⟩
theorem oB548 : ∀ w ∈ wB548, goodWord w = true := List.forall_mem_cons.mpr ⟨rfl, oB549⟩
theorem oB547 : ∀ w ∈ wB547, goodWord w = true := List.forall_mem_cons.mpr ⟨rfl, oB548⟩
theorem oB546 : ∀ w ∈ wB546, goodWord w = true := List.forall_mem_cons.mpr ⟨rfl, oB547⟩
theorem oB545 : ∀ w ∈ wB545, goodWord w = true := List.forall_mem_cons.mpr ⟨rfl, oB546⟩
theorem oB544 : ∀ w ∈ wB544, goodWord w = true := List.forall_mem_cons.mpr ⟨rfl, oB545⟩
theorem oB543 : ∀ w ∈ wB543, goodWord w = true := List.forall_mem_cons.mpr ⟨rfl, oB544⟩
theorem oB542 : ∀ w ∈ wB542, goodWord w = true := List.forall_mem_cons.mpr ⟨rfl, oB543⟩
theorem oB541 : ∀ w ∈ wB541, goodWord w = true := List.forall_mem_cons.mpr ⟨rfl, oB542⟩
theorem oB540 : ∀ w ∈ wB540, goodWord w = true := List.forall_mem_cons.mpr ⟨rfl, oB541⟩
theorem oB539 : ∀ w ∈ wB539, goodWord w = true := List.forall_mem_cons.mpr ⟨rfl, oB540⟩
theorem oB538 : ∀ w ∈ wB538, goodWord w = true := List.forall_mem_cons.mpr ⟨rfl, oB539⟩
theorem oB537 : ∀ w ∈ wB537, goodWord w = true := List.forall_mem_cons.mpr ⟨rfl, oB538⟩
theorem oB536 : ∀ w ∈ wB536, goodWord w = true := List.forall_mem_cons.mpr ⟨rfl, oB537⟩
theorem oB535 : ∀ w ∈ wB535, goodWord w = true := List.forall_mem_cons.mpr ⟨rfl, oB536⟩
theorem oB534 : ∀ w ∈ wB534, goodWord w = true := List.forall_mem_cons.mpr ⟨rfl, oB535⟩
theorem oB533 : ∀ w ∈ wB533, goodWord w = true := List.forall_mem_cons.mpr ⟨rfl, oB534⟩
theorem oB532 : ∀ w ∈ wB532, goodWord w = true := List.forall_mem_cons.mpr ⟨rfl, oB533⟩
theorem oB531 : ∀ w ∈ wB531, goodWord w = true := List.forall_mem_cons.mpr ⟨rfl, oB532⟩
theorem oB530 : ∀ w ∈ wB530, goodWord w = true := List.forall_mem_cons.mpr ⟨rfl, oB531⟩
theorem oB529 : ∀ w ∈ wB529, goodWord w = true := List.forall_mem_cons.mpr ⟨rfl, oB530⟩
theorem oB528 : ∀ w ∈ wB528, goodWord w = true := List.forall_mem_cons.mpr ⟨rfl, oB529⟩
theorem oB527 : ∀ w ∈ wB527, goodWord w = true := List.forall_mem_cons.mpr ⟨rfl, oB528⟩
theorem oB526 : ∀ w ∈ wB526, goodWord w = true := List.forall_mem_cons.mpr ⟨rfl, oB527⟩
theorem oB525 : ∀ w ∈ wB525, goodWord w = true := List.forall_mem_cons.mpr ⟨rfl, oB526⟩
theorem oB524 : ∀ w ∈ wB524, goodWord w = true := List.forall_mem_cons.mpr ⟨rfl, oB525⟩
theorem oB523 : ∀ w ∈ wB523, goodWord w = true := List.forall_mem_cons.mpr ⟨rfl, oB524⟩
theorem oB522 : ∀ w ∈ wB522, goodWord w = true := List.forall_mem_cons.mpr ⟨rfl, oB523⟩
theorem oB521 : ∀ w ∈ wB521, goodWord w = true := List.forall_mem_cons.mpr ⟨rfl, oB522⟩
theorem oB520 : ∀ w ∈ wB520, goodWord w = true := List.forall_mem_cons.mpr ⟨rfl, oB521⟩
theorem oB519 : ∀ w ∈ wB519, goodWord w = true := List.forall_mem_cons.mpr ⟨rfl, oB520⟩
theorem oB518 : ∀ w ∈ wB518, goodWord w = true := List.forall_mem_cons.mpr ⟨rfl, oB519⟩
theorem oB517 : ∀ w ∈ wB517, goodWord w = true := List.forall_mem_cons.mpr ⟨rfl, oB518⟩
theorem oB516 : ∀ w ∈ wB516, goodWord w = true := List.forall_mem_cons.mpr ⟨rfl, oB517⟩
theorem oB515 : ∀ w ∈ wB515, goodWord w = true := List.forall_mem_cons.mpr ⟨rfl, oB516⟩
theorem oB514 : ∀ w ∈ wB514, goodWord w = true := List.forall_mem_cons.mpr ⟨rfl, oB515⟩
theorem oB513 : ∀ w ∈ wB513, goodWord w = true := List.forall_mem_cons.mpr ⟨rfl, oB514⟩
theorem oB512 : ∀ w ∈ wB512, goodWord w = true := List.forall_mem_cons.mpr ⟨rfl, oB513⟩
theorem oB511 : ∀ w ∈ wB511, goodWord w = true := List.forall_mem_cons.mpr ⟨rfl, oB512⟩
theorem oB510 : ∀ w ∈ wB510, goodWord w = true := List.forall_mem_cons.mpr ⟨rfl, oB511⟩
theorem oB509 : ∀ w ∈ wB509, goodWord w = true := List.forall_mem_cons.mpr ⟨rfl, oB510⟩
theorem oB508 : ∀ w ∈ wB508, goodWord w = true := List.forall_mem_cons.mpr ⟨rfl, oB509⟩
theorem oB507 : ∀ w ∈ wB507, goodWord w = true := List.forall_mem_cons.mpr ⟨rfl, oB508⟩
theorem oB506 : ∀ w ∈ wB506, goodWord w = true := List.forall_mem_cons.mpr ⟨rfl, oB507⟩
theorem oB505 : ∀ w ∈ wB505, goodWord w = true := List.forall_mem_cons.mpr ⟨rfl, oB506⟩
theorem oB504 : ∀ w ∈ wB504, goodWord w = true := List.forall_mem_cons.mpr ⟨rfl, oB505⟩
theorem oB503 : ∀ w ∈ wB503, goodWord w = true := List.forall_mem_cons.mpr ⟨rfl, oB504⟩
theorem oB502 : ∀ w ∈ wB502, goodWord w = true := List.forall_mem_cons.mpr ⟨rfl, oB503⟩
theorem oB501 : ∀ w ∈ wB501, goodWord w = true := List.forall_mem_cons.mpr ⟨rfl, oB502⟩
theorem oB500 : ∀ w ∈ wB500, goodWord w = true := List.forall_mem_cons.mpr ⟨rfl, oB501⟩
theorem oB499 : ∀ w ∈ wB499, goodWord w = true := List.forall_mem_cons.mpr ⟨rfl, oB500⟩
theorem oB498 : ∀ w ∈ wB498, goodWord w = true := List.forall_mem_cons.mpr ⟨rfl, oB499⟩
theorem oB497 : ∀ w ∈ wB497, goodWord w = true := List.forall_mem_cons.mpr ⟨rfl, oB498⟩
theorem oB496 : ∀ w ∈ wB496, goodWord w = true := List.forall_mem_cons.mpr ⟨rfl, oB497⟩
theorem oB495 : ∀ w ∈ wB495, goodWord w = true := List.forall_mem_cons.mpr ⟨rfl, oB496⟩
theorem oB494 : ∀ w ∈ wB494, goodWord w = true := List.forall_mem_cons.mpr ⟨rfl, oB495⟩
theorem oB493 : ∀ w ∈ wB493, goodWord w = true := List.forall_mem_cons.mpr ⟨rfl, oB494⟩
theorem oB492 : ∀ w ∈ wB492, goodWord w = true := List.forall_mem_cons.mpr ⟨rfl, oB493⟩
theorem oB491 : ∀ w ∈ wB491, goodWord w = true := List.forall_mem_cons.mpr ⟨rfl, oB492⟩
theorem oB490 : ∀ w ∈ wB490, goodWord w = true := List.forall_mem_cons.mpr ⟨rfl, oB491⟩
theorem oB489 : ∀ w ∈ wB489, goodWord w = true := List.forall_mem_cons.mpr ⟨rfl, oB490⟩
theorem oB488 : ∀ w ∈ wB488, goodWord w = true := List.forall_mem_cons.mpr ⟨rfl, oB489⟩
theorem oB487 : ∀ w ∈ wB487, goodWord w = true := List.forall_mem_cons.mpr ⟨rfl, oB488⟩
theorem oB486 : ∀ w ∈ wB486, goodWord w = true := List.forall_mem_cons.mpr ⟨rfl, oB487⟩
theorem oB485 : ∀ w ∈ wB485, goodWord w = true := List.forall_mem_cons.mpr ⟨rfl, oB486⟩
theorem oB484 : ∀ w ∈ wB484, goodWord w = true := List.forall_mem_cons.mpr ⟨rfl, oB485⟩
theorem oB483 : ∀ w ∈ wB483, goodWord w = true := List.forall_mem_cons.mpr ⟨rfl, oB484⟩
theorem oB482 : ∀ w ∈ wB482, goodWord w = true := List.forall_mem_cons.mpr ⟨rfl, oB483⟩
theorem oB481 : ∀ w ∈ wB481, goodWord w = true := List.forall_mem_cons.mpr ⟨rfl, oB482⟩
theorem oB480 : ∀ w ∈ wB480, goodWord w = true := List.forall_mem_cons.mpr ⟨rfl, oB481⟩
theorem oB479 : ∀ w ∈ wB479, goodWord w = true := List.forall_mem_cons.mpr ⟨rfl, oB480⟩
theorem oB478 : ∀ w ∈ wB478, goodWord w = true := List.forall_mem_cons.mpr ⟨rfl, oB479⟩
theorem oB477 : ∀ w ∈ wB477, goodWord w = true := List.forall_mem_cons.mpr ⟨rfl, oB478⟩
theorem oB476 : ∀ w ∈ wB476, goodWord w = true := List.forall_mem_cons.mpr ⟨rfl, oB477⟩
theorem oB475 : ∀ w ∈ wB475, goodWord w = true := List.forall_mem_cons.mpr ⟨rfl, oB476⟩
theorem oB474 : ∀ w ∈ wB474, goodWord w = true := List.forall_mem_cons.mpr ⟨rfl, oB475⟩
theorem oB473 : ∀ w ∈ wB473, goodWord w = true := List.forall_mem_cons.mpr ⟨rfl, oB474⟩
theorem oB472 : ∀ w ∈ wB472, goodWord w = true := List.forall_mem_cons.mpr ⟨rfl, oB473⟩
theorem oB471 : ∀ w ∈ wB471, goodWord w = true := List.forall_mem_cons.mpr ⟨rfl, oB472⟩
theorem oB470 : ∀ w ∈ wB470, goodWord w = true := List.forall_mem_cons.mpr ⟨rfl, oB471⟩
theorem oB469 : ∀ w ∈ wB469, goodWord w = true := List.forall_mem_cons.mpr ⟨rfl, oB470⟩
theorem oB468 : ∀ w ∈ wB468, goodWord w = true := List.forall_mem_cons.mpr ⟨rfl, oB469⟩
theorem oB467 : ∀ w ∈ wB467, goodWord w = true := List.forall_mem_cons.mpr ⟨rfl, oB468⟩
theorem oB466 : ∀ w ∈ wB466, goodWord w = true := List.forall_mem_cons.mpr ⟨rfl, oB467⟩
theorem oB465 : ∀ w ∈ wB465, goodWord w = true := List.forall_mem_cons.mpr ⟨rfl, oB466⟩
theorem oB464 : ∀ w ∈ wB464, goodWord w = true := List.forall_mem_cons.mpr ⟨rfl, oB465⟩
theorem oB463 : ∀ w ∈ wB463, goodWord w = true := List.forall_mem_cons.mpr ⟨rfl, oB464⟩
theorem oB462 : ∀ w ∈ wB462, goodWord w = true := List.forall_mem_cons.mpr ⟨rfl, oB463⟩
theorem oB461 : ∀ w ∈ wB461, goodWord w = true := List.forall_mem_cons.mpr ⟨rfl, oB462⟩
theorem oB460 : ∀ w ∈ wB460, goodWord w = true := List.forall_mem_cons.mpr ⟨rfl, oB461⟩
theorem oB459 : ∀ w ∈ wB459, goodWord w = true := List.forall_mem_cons.mpr ⟨rfl, oB460⟩
theorem oB458 : ∀ w ∈ wB458, goodWord w = true := List.forall_mem_cons.mpr ⟨rfl, oB459⟩
theorem oB457 : ∀ w ∈ wB457, goodWord w = true := List.forall_mem_cons.mpr ⟨rfl, oB458⟩
theorem oB456 : ∀ w ∈ wB456, goodWord w = true := List.forall_mem_cons.mpr ⟨rfl, oB457⟩
theorem oB455 : ∀ w ∈ wB455, goodWord w = true := List.forall_mem_cons.mpr ⟨rfl, oB456⟩
theorem oB454 : ∀ w ∈ wB454, goodWord w = true := List.forall_mem_cons.mpr ⟨rfl, oB455⟩
theorem oB453 : ∀ w ∈ wB453, goodWord w = true := List.forall_mem_cons.mpr ⟨rfl, oB454⟩
theorem oB452 : ∀ w ∈ wB452, goodWord w = true := List.forall_mem_cons.mpr ⟨rfl, oB453⟩
theorem oB451 : ∀ w ∈ wB451, goodWord w = true := List.forall_mem_cons.mpr ⟨rfl, oB452⟩
theorem oB450 : ∀ w ∈ wB450, goodWord w = true := List.forall_mem_cons.mpr ⟨rfl, oB451⟩
theorem oB449 : ∀ w ∈ wB449, goodWord w = true := List.forall_mem_cons.mpr ⟨rfl, oB450⟩
theorem oB448 : ∀ w ∈ wB448, goodWord w = true := List.forall_mem_cons.mpr ⟨rfl, oB449⟩
theorem oB447 : ∀ w ∈ wB447, goodWord w = true := List.forall_mem_cons.mpr ⟨rfl, oB448⟩
theorem oB446 : ∀ w ∈ wB446, goodWord w = true := List.forall_mem_cons.mpr ⟨rfl, oB447⟩
theorem oB445 : ∀ w ∈ wB445, goodWord w = true := List.forall_mem_cons.mpr ⟨rfl, oB446⟩
theorem oB444 : ∀ w ∈ wB444, goodWord w = true := List.forall_mem_cons.mpr ⟨rfl, oB445⟩
theorem oB443 : ∀ w ∈ wB443, goodWord w = true := List.forall_mem_cons.mpr ⟨rfl, oB444⟩
theorem oB442 : ∀ w ∈ wB442, goodWord w = true := List.forall_mem_cons.mpr ⟨rfl, oB443⟩
theorem oB441 : ∀ w ∈ wB441, goodWord w = true := List.forall_mem_cons.mpr ⟨rfl, oB442⟩
theorem oB440 : ∀ w ∈ wB440, goodWord w = true := List.forall_mem_cons.mpr ⟨rfl, oB441⟩
theorem oB439 : ∀ w ∈ wB439, goodWord w = true := List.forall_mem_cons.mpr ⟨rfl, oB440⟩
theorem oB438 : ∀ w ∈ wB438, goodWord w = true := List.forall_mem_cons.mpr ⟨rfl, oB439⟩
theorem oB437 : ∀ w ∈ wB437, goodWord w = true := List.forall_mem_cons.mpr ⟨rfl, oB438⟩
theorem oB436 : ∀ w ∈ wB436, goodWord w = true := List.forall_mem_cons.mpr ⟨rfl, oB437⟩
theorem oB435 : ∀ w ∈ wB435, goodWord w = true := List.forall_mem_cons.mpr ⟨rfl, oB436⟩
theorem oB434 : ∀ w ∈ wB434, goodWord w = true := List.forall_mem_cons.mpr ⟨rfl, oB435⟩
theorem oB433 : ∀ w ∈ wB433, goodWord w = true := List.forall_mem_cons.mpr ⟨rfl, oB434⟩
theorem oB432 : ∀ w ∈ wB432, goodWord w = true := List.forall_mem_cons.mpr ⟨rfl, oB433⟩
theorem oB431 : ∀ w ∈ wB431, goodWord w = true := List.forall_mem_cons.mpr ⟨rfl, oB432⟩
theorem oB430 : ∀ w ∈ wB430, goodWord w = true := List.forall_mem_cons.mpr ⟨rfl, oB431⟩
theorem oB429 : ∀ w ∈ wB429, goodWord w = true := List.forall_mem_cons.mpr ⟨rfl, oB430⟩
theorem oB428 : ∀ w ∈ wB428, goodWord w = true := List.forall_mem_cons.mpr ⟨rfl, oB429⟩
theorem oB427 : ∀ w ∈ wB427, goodWord w = true := List.forall_mem_cons.mpr ⟨rfl, oB428⟩
theorem oB426 : ∀ w ∈ wB426, goodWord w = true := List.forall_mem_cons.mpr ⟨rfl, oB427⟩
theorem oB425 : ∀ w ∈ wB425, goodWord w = true := List.forall_mem_cons.mpr ⟨rfl, oB426⟩
theorem oB424 : ∀ w ∈ wB424, goodWord w = true := List.forall_mem_cons.mpr ⟨rfl, oB425⟩
theorem oB423 : ∀ w ∈ wB423, goodWord w = true := List.forall_mem_cons.mpr ⟨rfl, oB424⟩
theorem oB422 : ∀ w ∈ wB422, goodWord w = true := List.forall_mem_cons.mpr ⟨rfl, oB423⟩
theorem oB421 : ∀ w ∈ wB421, goodWord w = true := List.forall_mem_cons.mpr ⟨rfl, oB422⟩
theorem oB420 : ∀ w ∈ wB420, goodWord w = true := List.forall_mem_cons.mpr ⟨rfl, oB421⟩
theorem oB419 : ∀ w ∈ wB419, goodWord w = true := List.forall_mem_cons.mpr ⟨rfl, oB420⟩
theorem oB418 : ∀ w ∈ wB418, goodWord w = true := List.forall_mem_cons.mpr ⟨rfl, oB419⟩
theorem oB417 : ∀ w ∈ wB417, goodWord w = true := List.forall_mem_cons.mpr ⟨rfl, oB418⟩
theorem oB416 : ∀ w ∈ wB416, goodWord w = true := List.forall_mem_cons.mpr ⟨rfl, oB417⟩
theorem oB415 : ∀ w ∈ wB415, goodWord w = true := List.forall_mem_cons.mpr ⟨rfl, oB416⟩
theorem oB414 : ∀ w ∈ wB414, goodWord w = true := List.forall_mem_cons.mpr ⟨rfl, oB415⟩
theorem oB413 : ∀ w ∈ wB413, goodWord w = true := List.forall_mem_cons.mpr ⟨rfl, oB414⟩
theorem oB412 : ∀ w ∈ wB412, goodWord w = true := List.forall_mem_cons.mpr ⟨rfl, oB413⟩
theorem oB411 : ∀ w ∈ wB411, goodWord w = true := List.forall_mem_cons.mpr ⟨rfl, oB412⟩
theorem oB410 : ∀ w ∈ wB410, goodWord w = true := List.forall_mem_cons.mpr ⟨rfl, oB411⟩
theorem oB409 : ∀ w ∈ wB409, goodWord w = true := List.forall_mem_cons.mpr ⟨rfl, oB410⟩
theorem oB408 : ∀ w ∈ wB408, goodWord w = true := List.forall_mem_cons.mpr ⟨rfl, oB409⟩
theorem oB407 : ∀ w ∈ wB407, goodWord w = true := List.forall_mem_cons.mpr ⟨rfl, oB408⟩
theorem oB406 : ∀ w ∈ wB406, goodWord w = true := List.forall_mem_cons.mpr ⟨rfl, oB407⟩
theorem oB405 : ∀ w ∈ wB405, goodWord w = true := List.forall_mem_cons.mpr ⟨rfl, oB406⟩
theorem oB404 : ∀ w ∈ wB404, goodWord w = true := List.forall_mem_cons.mpr ⟨rfl, oB405⟩
theorem oB403 : ∀ w ∈ wB403, goodWord w = true := List.forall_mem_cons.mpr ⟨rfl, oB404⟩
theorem oB402 : ∀ w ∈ wB402, goodWord w = true := List.forall_mem_cons.mpr ⟨rfl, oB403⟩
theorem oB401 : ∀ w ∈ wB401, goodWord w = true := List.forall_mem_cons.mpr ⟨rfl, oB402⟩
theorem oB400 : ∀ w ∈ wB400, goodWord w = true := List.forall_mem_cons.mpr ⟨rfl, oB401⟩
theorem oB399 : ∀ w ∈ wB399, goodWord w = true := List.forall_mem_cons.mpr ⟨rfl, oB400⟩
theorem oB398 : ∀ w ∈ wB398, goodWord w = true := List.forall_mem_cons.mpr ⟨rfl, oB399⟩
theorem oB397 : ∀ w ∈ wB397, goodWord w = true := List.forall_mem_cons.mpr ⟨rfl, oB398⟩
theorem oB396 : ∀ w ∈ wB396, goodWord w = true := List.forall_mem_cons.mpr ⟨rfl, oB397⟩
theorem oB395 : ∀ w ∈ wB395, goodWord w = true := List.forall_mem_cons.mpr ⟨rfl, oB396⟩
theorem oB394 : ∀ w ∈ wB394, goodWord w = true := List.forall_mem_cons.mpr ⟨rfl, oB395⟩
theorem oB393 : ∀ w ∈ wB393, goodWord w = true := List.forall_mem_cons.mpr ⟨rfl, oB394⟩
theorem oB392 : ∀ w ∈ wB392, goodWord w = true := List.forall_mem_cons.mpr ⟨rfl, oB393⟩
theorem oB391 : ∀ w ∈ wB391, goodWord w = true := List.forall_mem_cons.mpr ⟨rfl, oB392⟩
theorem oB390 : ∀ w ∈ wB390, goodWord w = true := List.forall_mem_cons.mpr ⟨rfl, oB391⟩
theorem oB389 : ∀ w ∈ wB389, goodWord w = true := List.forall_mem_cons.mpr ⟨rfl, oB390⟩
theorem oB388 : ∀ w ∈ wB388, goodWord w = true := List.forall_mem_cons.mpr ⟨rfl, oB389⟩
theorem oB387 : ∀ w ∈ wB387, goodWord w = true := List.forall_mem_cons.mpr ⟨rfl, oB388⟩
theorem oB386 : ∀ w ∈ wB386, goodWord w = true := List.forall_mem_cons.mpr ⟨rfl, oB387⟩
theorem oB385 : ∀ w ∈ wB385, goodWord w = true := List.forall_mem_cons.mpr ⟨rfl, oB386⟩
theorem oB384 : ∀ w ∈ wB384, goodWord w = true := List.forall_mem_cons.mpr ⟨rfl, oB385⟩
theorem oB383 : ∀ w ∈ wB383, goodWord w = true := List.forall_mem_cons.mpr ⟨rfl, oB384⟩
theorem oB382 : ∀ w ∈ wB382, goodWord w = true := List.forall_mem_cons.mpr ⟨rfl, oB383⟩
theorem oB381 : ∀ w ∈ wB381, goodWord w = true := List.forall_mem_cons.mpr ⟨rfl, oB382⟩
theorem oB380 : ∀ w ∈ wB380, goodWord w = true := List.forall_mem_cons.mpr ⟨rfl, oB381⟩
theorem oB379 : ∀ w ∈ wB379, goodWord w = true := List.forall_mem_cons.mpr ⟨rfl, oB380⟩
theorem oB378 : ∀ w ∈ wB378, goodWord w = true := List.forall_mem_cons.mpr ⟨rfl, oB379⟩
theorem oB377 : ∀ w ∈ wB377, goodWord w = true := List.forall_mem_cons.mpr ⟨rfl, oB378⟩
theorem oB376 : ∀ w ∈ wB376, goodWord w = true := List.forall_mem_cons.mpr ⟨rfl, oB377⟩
theorem oB375 : ∀ w ∈ wB375, goodWord w = true := List.forall_mem_cons.mpr ⟨rfl, oB376⟩
theorem oB374 : ∀ w ∈ wB374, goodWord w = true := List.forall_mem_cons.mpr ⟨rfl, oB375⟩
theorem oB373 : ∀ w ∈ wB373, goodWord w = true := List.forall_mem_cons.mpr ⟨rfl, oB374⟩
theorem oB372 : ∀ w ∈ wB372, goodWord w = true := List.forall_mem_cons.mpr ⟨rfl, oB373⟩
theorem oB371 : ∀ w ∈ wB371, goodWord w = true := List.forall_mem_cons.mpr ⟨rfl, oB372⟩
theorem oB370 : ∀ w ∈ wB370, goodWord w = true := List.forall_mem_cons.mpr ⟨rfl, oB371⟩
theorem oB369 : ∀ w ∈ wB369, goodWord w = true := List.forall_mem_cons.mpr ⟨rfl, oB370⟩
theorem oB368 : ∀ w ∈ wB368, goodWord w = true := List.forall_mem_cons.mpr ⟨rfl, oB369⟩
theorem oB367 : ∀ w ∈ wB367, goodWord w = true := List.forall_mem_cons.mpr ⟨rfl, oB368⟩
theorem oB366 : ∀ w ∈ wB366, goodWord w = true := List.forall_mem_cons.mpr ⟨rfl, oB367⟩
theorem oB365 : ∀ w ∈ wB365, goodWord w = true := List.forall_mem_cons.mpr ⟨rfl, oB366⟩
theorem oB364 : ∀ w ∈ wB364, goodWord w = true := List.forall_mem_cons.mpr ⟨rfl, oB365⟩
theorem oB363 : ∀ w ∈ wB363, goodWord w = true := List.forall_mem_cons.mpr ⟨rfl, oB364⟩
theorem oB362 : ∀ w ∈ wB362, goodWord w = true := List.forall_mem_cons.mpr ⟨rfl, oB363⟩
theorem oB361 : ∀ w ∈ wB361, goodWord w = true := List.forall_mem_cons.mpr ⟨rfl, oB362⟩
theorem oB360 : ∀ w ∈ wB360, goodWord w = true := List.forall_mem_cons.mpr ⟨rfl, oB361⟩
theorem oB359 : ∀ w ∈ wB359, goodWord w = true := List.forall_mem_cons.mpr ⟨rfl, oB360⟩
theorem oB358 : ∀ w ∈ wB358, goodWord w = true := List.forall_mem_cons.mpr ⟨rfl, oB359⟩
theorem oB357 : ∀ w ∈ wB357, goodWord w = true := List.forall_mem_cons.mpr ⟨rfl, oB358⟩
theorem oB356 : ∀ w ∈ wB356, goodWord w = true := List.forall_mem_cons.mpr ⟨rfl, oB357⟩
theorem oB355 : ∀ w ∈ wB355, goodWord w = true := List.forall_mem_cons.mpr ⟨rfl, oB356⟩
theorem oB354 : ∀ w ∈ wB354, goodWord w = true := List.forall_mem_cons.mpr ⟨rfl, oB355⟩
theorem oB353 : ∀ w ∈ wB353, goodWord w = true := List.forall_mem_cons.mpr ⟨rfl, oB354⟩
theorem oB352 : ∀ w ∈ wB352, goodWord w = true := List.forall_mem_cons.mpr ⟨rfl, oB353⟩
theorem oB351 : ∀ w ∈ wB351, goodWord w = true := List.forall_mem_cons.mpr ⟨rfl, oB352⟩
theorem oB350 : ∀ w ∈ wB350, goodWord w = true := List.forall_mem_cons.mpr ⟨rfl, oB351⟩
theorem oB349 : ∀ w ∈ wB349, goodWord w = true := List.forall_mem_cons.mpr ⟨rfl, oB350⟩
theorem oB348 : ∀ w ∈ wB348, goodWord w = true := List.forall_mem_cons.mpr ⟨rfl, oB349⟩
theorem oB347 : ∀ w ∈ wB347, goodWord w = true := List.forall_mem_cons.mpr ⟨rfl, oB348⟩
theorem oB346 : ∀ w ∈ wB346, goodWord w = true := List.forall_mem_cons.mpr ⟨rfl, oB347⟩
theorem oB345 : ∀ w ∈ wB345, goodWord w = true := List.forall_mem_cons.mpr ⟨rfl, oB346⟩
theorem oB344 : ∀ w ∈ wB344, goodWord w = true := List.forall_mem_cons.mpr ⟨rfl, oB345⟩
theorem oB343 : ∀ w ∈ wB343, goodWord w = true := List.forall_mem_cons.mpr ⟨rfl, oB344⟩
theorem oB342 : ∀ w ∈ wB342, goodWord w = true := List.forall_mem_cons.mpr ⟨rfl, oB343⟩
theorem oB341 : ∀ w ∈ wB341, goodWord w = true := List.forall_mem_cons.mpr ⟨rfl, oB342⟩
theorem oB340 : ∀ w ∈ wB340, goodWord w = true := List.forall_mem_cons.mpr ⟨rfl, oB341⟩
theorem oB339 : ∀ w ∈ wB339, goodWord w = true := List.forall_mem_cons.mpr ⟨rfl, oB340⟩
theorem oB338 : ∀ w ∈ wB338, goodWord w = true := List.forall_mem_cons.mpr ⟨rfl, oB339⟩
theorem oB337 : ∀ w ∈ wB337, goodWord w = true := List.forall_mem_cons.mpr ⟨rfl, oB338⟩
theorem oB336 : ∀ w ∈ wB336, goodWord w = true := List.forall_mem_cons.mpr ⟨rfl, oB337⟩
theorem oB335 : ∀ w ∈ wB335, goodWord w = true := List.forall_mem_cons.mpr ⟨rfl, oB336⟩
theorem oB334 : ∀ w ∈ wB334, goodWord w = true := List.forall_mem_cons.mpr ⟨rfl, oB335⟩
theorem oB333 : ∀ w ∈ wB333, goodWord w = true := List.forall_mem_cons.mpr ⟨rfl, oB334⟩
theorem oB332 : ∀ w ∈ wB332, goodWord w = true := List.forall_mem_cons.mpr ⟨rfl, oB333⟩
theorem oB331 : ∀ w ∈ wB331, goodWord w = true := List.forall_mem_cons.mpr ⟨rfl, oB332⟩
theorem oB330 : ∀ w ∈ wB330, goodWord w = true := List.forall_mem_cons.mpr ⟨rfl, oB331⟩
theorem oB329 : ∀ w ∈ wB329, goodWord w = true := List.forall_mem_cons.mpr ⟨rfl, oB330⟩
theorem oB328 : ∀ w ∈ wB328, goodWord w = true := List.forall_mem_cons.mpr ⟨rfl, oB329⟩
theorem oB327 : ∀ w ∈ wB327, goodWord w = true := List.forall_mem_cons.mpr ⟨rfl, oB328⟩
theorem oB326 : ∀ w ∈ wB326, goodWord w = true := List.forall_mem_cons.mpr ⟨rfl, oB327⟩
theorem oB325 : ∀ w ∈ wB325, goodWord w = true := List.forall_mem_cons.mpr ⟨rfl, oB326⟩
theorem oB324 : ∀ w ∈ wB324, goodWord w = true := List.forall_mem_cons.mpr ⟨rfl, oB325⟩
theorem oB323 : ∀ w ∈ wB323, goodWord w = true := List.forall_mem_cons.mpr ⟨rfl, oB324⟩
theorem oB322 : ∀ w ∈ wB322, goodWord w = true := List.forall_mem_cons.mpr ⟨rfl, oB323⟩
theorem oB321 : ∀ w ∈ wB321, goodWord w = true := List.forall_mem_cons.mpr ⟨rfl, oB322⟩
theorem oB320 : ∀ w ∈ wB320, goodWord w = true := List.forall_mem_cons.mpr ⟨rfl, oB321⟩
theorem oB319 : ∀ w ∈ wB319, goodWord w = true := List.forall_mem_cons.mpr ⟨rfl, oB320⟩
theorem oB318 : ∀ w ∈ wB318, goodWord w = true := List.forall_mem_cons.mpr ⟨rfl, oB319⟩
theorem oB317 : ∀ w ∈ wB317, goodWord w = true := List.forall_mem_cons.mpr ⟨rfl, oB318⟩
theorem oB316 : ∀ w ∈ wB316, goodWord w = true := List.forall_mem_cons.mpr ⟨rfl, oB317⟩
theorem oB315 : ∀ w ∈ wB315, goodWord w = true := List.forall_mem_cons.mpr ⟨rfl, oB316⟩
theorem oB314 : ∀ w ∈ wB314, goodWord w = true := List.forall_mem_cons.mpr ⟨rfl, oB315⟩
theorem oB313 : ∀ w ∈ wB313, goodWord w = true := List.forall_mem_cons.mpr ⟨rfl, oB314⟩
theorem oB312 : ∀ w ∈ wB312, goodWord w = true := List.forall_mem_cons.mpr ⟨rfl, oB313⟩
theorem oB311 : ∀ w ∈ wB311, goodWord w = true := List.forall_mem_cons.mpr ⟨rfl, oB312⟩
theorem oB310 : ∀ w ∈ wB310, goodWord w = true := List.forall_mem_cons.mpr ⟨rfl, oB311⟩
theorem oB309 : ∀ w ∈ wB309, goodWord w = true := List.forall_mem_cons.mpr ⟨rfl, oB310⟩
theorem oB308 : ∀ w ∈ wB308, goodWord w = true := List.forall_mem_cons.mpr ⟨rfl, oB309⟩
theorem oB307 : ∀ w ∈ wB307, goodWord w = true := List.forall_mem_cons.mpr ⟨rfl, oB308⟩
theorem oB306 : ∀ w ∈ wB306, goodWord w = true := List.forall_mem_cons.mpr ⟨rfl, oB307⟩
theorem oB305 : ∀ w ∈ wB305, goodWord w = true := List.forall_mem_cons.mpr ⟨rfl, oB306⟩
theorem oB304 : ∀ w ∈ wB304, goodWord w = true := List.forall_mem_cons.mpr ⟨rfl, oB305⟩
theorem oB303 : ∀ w ∈ wB303, goodWord w = true := List.forall_mem_cons.mpr ⟨rfl, oB304⟩
theorem oB302 : ∀ w ∈ wB302, goodWord w = true := List.forall_mem_cons.mpr ⟨rfl, oB303⟩
theorem oB301 : ∀ w ∈ wB301, goodWord w = true := List.forall_mem_cons.mpr ⟨rfl, oB302⟩
theorem oB300 : ∀ w ∈ wB300, goodWord w = true := List.forall_mem_cons.mpr ⟨rfl, oB301⟩
theorem oB299 : ∀ w ∈ wB299, goodWord w = true := List.forall_mem_cons.mpr ⟨rfl, oB300⟩
theorem oB298 : ∀ w ∈ wB298, goodWord w = true := List.forall_mem_cons.mpr ⟨rfl, oB299⟩
theorem oB297 : ∀ w ∈ wB297, goodWord w = true := List.forall_mem_cons.mpr ⟨rfl, oB298⟩
theorem oB296 : ∀ w ∈ wB296, goodWord w = true := List.forall_mem_cons.mpr ⟨rfl, oB297⟩
theorem oB295 : ∀ w ∈ wB295, goodWord w = true := List.forall_mem_cons.mpr ⟨rfl, oB296⟩
theorem oB294 : ∀ w ∈ wB294, goodWord w = true := List.forall_mem_cons.mpr ⟨rfl, oB295⟩
theorem oB293 : ∀ w ∈ wB293, goodWord w = true := List.forall_mem_cons.mpr ⟨rfl, oB294⟩
theorem oB292 : ∀ w ∈ wB292, goodWord w = true := List.forall_mem_cons.mpr ⟨rfl, oB293⟩
theorem oB291 : ∀ w ∈ wB291, goodWord w = true := List.forall_mem_cons.mpr ⟨rfl, oB292⟩
theorem oB290 : ∀ w ∈ wB290, goodWord w = true := List.forall_mem_cons.mpr ⟨rfl, oB291⟩
theorem oB289 : ∀ w ∈ wB289, goodWord w = true := List.forall_mem_cons.mpr ⟨rfl, oB290⟩
theorem oB288 : ∀ w ∈ wB288, goodWord w = true := List.forall_mem_cons.mpr ⟨rfl, oB289⟩
theorem oB287 : ∀ w ∈ wB287, goodWord w = true := List.forall_mem_cons.mpr ⟨rfl, oB288⟩
theorem oB286 : ∀ w ∈ wB286, goodWord w = true := List.forall_mem_cons.mpr ⟨rfl, oB287⟩
theorem oB285 : ∀ w ∈ wB285, goodWord w = true := List.forall_mem_cons.mpr ⟨rfl, oB286⟩
theorem oB284 : ∀ w ∈ wB284, goodWord w = true := List.forall_mem_cons.mpr ⟨rfl, oB285⟩
theorem oB283 : ∀ w ∈ wB283, goodWord w = true := List.forall_mem_cons.mpr ⟨rfl, oB284⟩
theorem oB282 : ∀ w ∈ wB282, goodWord w = true := List.forall_mem_cons.mpr ⟨rfl, oB283⟩
theorem oB281 : ∀ w ∈ wB281, goodWord w = true := List.forall_mem_cons.mpr ⟨rfl, oB282⟩
theorem oB280 : ∀ w ∈ wB280, goodWord w = true := List.forall_mem_cons.mpr ⟨rfl, oB281⟩
theorem oB279 : ∀ w ∈ wB279, goodWord w = true := List.forall_mem_cons.mpr ⟨rfl, oB280⟩
theorem oB278 : ∀ w ∈ wB278, goodWord w = true := List.forall_mem_cons.mpr ⟨rfl, oB279⟩
theorem oB277 : ∀ w ∈ wB277, goodWord w = true := List.forall_mem_cons.mpr ⟨rfl, oB278⟩
theorem oB276 : ∀ w ∈ wB276, goodWord w = true := List.forall_mem_cons.mpr ⟨rfl, oB277⟩
theorem oB275 : ∀ w ∈ wB275, goodWord w = true := List.forall_mem_cons.mpr ⟨rfl, oB276⟩
theorem oB274 : ∀ w ∈ wB274, goodWord w = true := List.forall_mem_cons.mpr ⟨rfl, oB275⟩
theorem oB273 : ∀ w ∈ wB273, goodWord w = true := List.forall_mem_cons.mpr ⟨rfl, oB274⟩
theorem oB272 : ∀ w ∈ wB272, goodWord w = true := List.forall_mem_cons.mpr ⟨rfl, oB273⟩
theorem oB271 : ∀ w ∈ wB271, goodWord w = true := List.forall_mem_cons.mpr ⟨rfl, oB272⟩
theorem oB270 : ∀ w ∈ wB270, goodWord w = true := List.forall_mem_cons.mpr ⟨rfl, oB271⟩
theorem oB269 : ∀ w ∈ wB269, goodWord w = true := List.forall_mem_cons.mpr ⟨rfl, oB270⟩
theorem oB268 : ∀ w ∈ wB268, goodWord w = true := List.forall_mem_cons.mpr ⟨rfl, oB269⟩
theorem oB267 : ∀ w ∈ wB267, goodWord w = true := List.forall_mem_cons.mpr ⟨rfl, oB268⟩
theorem oB266 : ∀ w ∈ wB266, goodWord w = true := List.forall_mem_cons.mpr ⟨rfl, oB267⟩
theorem oB265 : ∀ w ∈ wB265, goodWord w = true := List.forall_mem_cons.mpr ⟨rfl, oB266⟩
theorem oB264 : ∀ w ∈ wB264, goodWord w = true := List.forall_mem_cons.mpr ⟨rfl, oB265⟩
theorem oB263 : ∀ w ∈ wB263, goodWord w = true := List.forall_mem_cons.mpr ⟨rfl, oB264⟩
theorem oB262 : ∀ w ∈ wB262, goodWord w = true := List.forall_mem_cons.mpr ⟨rfl, oB263⟩
theorem oB261 : ∀ w ∈ wB261, goodWord w = true := List.forall_mem_cons.mpr ⟨rfl, oB262⟩
theorem oB260 : ∀ w ∈ wB260, goodWord w = true := List.forall_mem_cons.mpr ⟨rfl, oB261⟩
theorem oB259 : ∀ w ∈ wB259, goodWord w = true := List.forall_mem_cons.mpr ⟨rfl, oB260⟩
theorem oB258 : ∀ w ∈ wB258, goodWord w = true := List.forall_mem_cons.mpr ⟨rfl, oB259⟩
theorem oB257 : ∀ w ∈ wB257, goodWord w = true := List.forall_mem_cons.mpr ⟨rfl, oB258⟩
theorem oB256 : ∀ w ∈ wB256, goodWord w = true := List.forall_mem_cons.mpr ⟨rfl, oB257⟩
theorem oB255 : ∀ w ∈ wB255, goodWord w = true := List.forall_mem_cons.mpr ⟨rfl, oB256⟩
theorem oB254 : ∀ w ∈ wB254, goodWord w = true := List.forall_mem_cons.mpr ⟨rfl, oB255⟩
theorem oB253 : ∀ w ∈ wB253, goodWord w = true := List.forall_mem_cons.mpr ⟨rfl, oB254⟩
theorem oB252 : ∀ w ∈ wB252, goodWord w = true := List.forall_mem_cons.mpr ⟨rfl, oB253⟩
theorem oB251 : ∀ w ∈ wB251, goodWord w = true := List.forall_mem_cons.mpr ⟨rfl, oB252⟩
theorem oB250 : ∀ w ∈ wB250, goodWord w = true := List.forall_mem_cons.mpr ⟨rfl, oB251⟩
theorem oB249 : ∀ w ∈ wB249, goodWord w = true := List.forall_mem_cons.mpr ⟨rfl, oB250⟩
theorem oB248 : ∀ w ∈ wB248, goodWord w = true := List.forall_mem_cons.mpr ⟨rfl, oB249⟩
theorem oB247 : ∀ w ∈ wB247, goodWord w = true := List.forall_mem_cons.mpr ⟨rfl, oB248⟩
theorem oB246 : ∀ w ∈ wB246, goodWord w = true := List.forall_mem_cons.mpr ⟨rfl, oB247⟩
theorem oB245 : ∀ w ∈ wB245, goodWord w = true := List.forall_mem_cons.mpr ⟨rfl, oB246⟩
theorem oB244 : ∀ w ∈ wB244, goodWord w = true := List.forall_mem_cons.mpr ⟨rfl, oB245⟩
theorem oB243 : ∀ w ∈ wB243, goodWord w = true := List.forall_mem_cons.mpr ⟨rfl, oB244⟩
theorem oB242 : ∀ w ∈ wB242, goodWord w = true := List.forall_mem_cons.mpr ⟨rfl, oB243⟩
theorem oB241 : ∀ w ∈ wB241, goodWord w = true := List.forall_mem_cons.mpr ⟨rfl, oB242⟩
theorem oB240 : ∀ w ∈ wB240, goodWord w = true := List.forall_mem_cons.mpr ⟨rfl, oB241⟩
theorem oB239 : ∀ w ∈ wB239, goodWord w = true := List.forall_mem_cons.mpr ⟨rfl, oB240⟩
theorem oB238 : ∀ w ∈ wB238, goodWord w = true := List.forall_mem_cons.mpr ⟨rfl, oB239⟩
theorem oB237 : ∀ w ∈ wB237, goodWord w = true := List.forall_mem_cons.mpr ⟨rfl, oB238⟩
theorem oB236 : ∀ w ∈ wB236, goodWord w = true := List.forall_mem_cons.mpr ⟨rfl, oB237⟩
theorem oB235 : ∀ w ∈ wB235, goodWord w = true := List.forall_mem_cons.mpr ⟨rfl, oB236⟩
theorem oB234 : ∀ w ∈ wB234, goodWord w = true := List.forall_mem_cons.mpr ⟨rfl, oB235⟩
theorem oB233 : ∀ w ∈ wB233, goodWord w = true := List.forall_mem_cons.mpr ⟨rfl, oB234⟩
theorem oB232 : ∀ w ∈ wB232, goodWord w = true := List.forall_mem_cons.mpr ⟨rfl, oB233⟩
theorem oB231 : ∀ w ∈ wB231, goodWord w = true := List.forall_mem_cons.mpr ⟨rfl, oB232⟩
theorem oB230 : ∀ w ∈ wB230, goodWord w = true := List.forall_mem_cons.mpr ⟨rfl, oB231⟩
theorem oB229 : ∀ w ∈ wB229, goodWord w = true := List.forall_mem_cons.mpr ⟨rfl, oB230⟩
theorem oB228 : ∀ w ∈ wB228, goodWord w = true := List.forall_mem_cons.mpr ⟨rfl, oB229⟩
theorem oB227 : ∀ w ∈ wB227, goodWord w = true := List.forall_mem_cons.mpr ⟨rfl, oB228⟩
theorem oB226 : ∀ w ∈ wB226, goodWord w = true := List.forall_mem_cons.mpr ⟨rfl, oB227⟩
theorem oB225 : ∀ w ∈ wB225, goodWord w = true := List.forall_mem_cons.mpr ⟨rfl, oB226⟩
theorem oB224 : ∀ w ∈ wB224, goodWord w = true := List.forall_mem_cons.mpr ⟨rfl, oB225⟩
theorem oB223 : ∀ w ∈ wB223, goodWord w = true := List.forall_mem_cons.mpr ⟨rfl, oB224⟩
theorem oB222 : ∀ w ∈ wB222, goodWord w = true := List.forall_mem_cons.mpr ⟨rfl, oB223⟩
theorem oB221 : ∀ w ∈ wB221, goodWord w = true := List.forall_mem_cons.mpr ⟨rfl, oB222⟩
theorem oB220 : ∀ w ∈ wB220, goodWord w = true := List.forall_mem_cons.mpr ⟨rfl, oB221⟩
theorem oB219 : ∀ w ∈ wB219, goodWord w = true := List.forall_mem_cons.mpr ⟨rfl, oB220⟩
theorem oB218 : ∀ w ∈ wB218, goodWord w = true := List.forall_mem_cons.mpr ⟨rfl, oB219⟩
theorem oB217 : ∀ w ∈ wB217, goodWord w = true := List.forall_mem_cons.mpr ⟨rfl, oB218⟩
theorem oB216 : ∀ w ∈ wB216, goodWord w = true := List.forall_mem_cons.mpr ⟨rfl, oB217⟩
theorem oB215 : ∀ w ∈ wB215, goodWord w = true := List.forall_mem_cons.mpr ⟨rfl, oB216⟩
theorem oB214 : ∀ w ∈ wB214, goodWord w = true := List.forall_mem_cons.mpr ⟨rfl, oB215⟩
theorem oB213 : ∀ w ∈ wB213, goodWord w = true := List.forall_mem_cons.mpr ⟨rfl, oB214⟩
theorem oB212 : ∀ w ∈ wB212, goodWord w = true := List.forall_mem_cons.mpr ⟨rfl, oB213⟩
theorem oB211 : ∀ w ∈ wB211, goodWord w = true := List.forall_mem_cons.mpr ⟨rfl, oB212⟩
theorem oB210 : ∀ w ∈ wB210, goodWord w = true := List.forall_mem_cons.mpr ⟨rfl, oB211⟩
theorem oB209 : ∀ w ∈ wB209, goodWord w = true := List.forall_mem_cons.mpr ⟨rfl, oB210⟩
theorem oB208 : ∀ w ∈ wB208, goodWord w = true := List.forall_mem_cons.mpr ⟨rfl, oB209⟩
theorem oB207 : ∀ w ∈ wB207, goodWord w = true := List.forall_mem_cons.mpr ⟨rfl, oB208⟩
theorem oB206 : ∀ w ∈ wB206, goodWord w = true := List.forall_mem_cons.mpr ⟨rfl, oB207⟩
theorem oB205 : ∀ w ∈ wB205, goodWord w = true := List.forall_mem_cons.mpr ⟨rfl, oB206⟩
theorem oB204 : ∀ w ∈ wB204, goodWord w = true := List.forall_mem_cons.mpr ⟨rfl, oB205⟩
theorem oB203 : ∀ w ∈ wB203, goodWord w = true := List.forall_mem_cons.mpr ⟨rfl, oB204⟩
theorem oB202 : ∀ w ∈ wB202, goodWord w = true := List.forall_mem_cons.mpr ⟨rfl, oB203⟩
theorem oB201 : ∀ w ∈ wB201, goodWord w = true := List.forall_mem_cons.mpr ⟨rfl, oB202⟩
theorem oB200 : ∀ w ∈ wB200, goodWord w = true := List.forall_mem_cons.mpr ⟨rfl, oB201⟩
theorem oB199 : ∀ w ∈ wB199, goodWord w = true := List.forall_mem_cons.mpr ⟨rfl, oB200⟩
theorem oB198 : ∀ w ∈ wB198, goodWord w = true := List.forall_mem_cons.mpr ⟨rfl, oB199⟩
theorem oB197 : ∀ w ∈ wB197, goodWord w = true := List.forall_mem_cons.mpr ⟨rfl, oB198⟩
theorem oB196 : ∀ w ∈ wB196, goodWord w = true := List.forall_mem_cons.mpr ⟨rfl, oB197⟩
theorem oB195 : ∀ w ∈ wB195, goodWord w = true := List.forall_mem_cons.mpr ⟨rfl, oB196⟩
theorem oB194 : ∀ w ∈ wB194, goodWord w = true := List.forall_mem_cons.mpr ⟨rfl, oB195⟩
theorem oB193 : ∀ w ∈ wB193, goodWord w = true := List.forall_mem_cons.mpr ⟨rfl, oB194⟩
theorem oB192 : ∀ w ∈ wB192, goodWord w = true := List.forall_mem_cons.mpr ⟨rfl, oB193⟩
theorem oB191 : ∀ w ∈ wB191, goodWord w = true := List.forall_mem_cons.mpr ⟨rfl, oB192⟩
theorem oB190 : ∀ w ∈ wB190, goodWord w = true := List.forall_mem_cons.mpr ⟨rfl, oB191⟩
theorem oB189 : ∀ w ∈ wB189, goodWord w = true := List.forall_mem_cons.mpr ⟨rfl, oB190⟩
theorem oB188 : ∀ w ∈ wB188, goodWord w = true := List.forall_mem_cons.mpr ⟨rfl, oB189⟩
theorem oB187 : ∀ w ∈ wB187, goodWord w = true := List.forall_mem_cons.mpr ⟨rfl, oB188⟩
theorem oB186 : ∀ w ∈ wB186, goodWord w = true := List.forall_mem_cons.mpr ⟨rfl, oB187⟩
theorem oB185 : ∀ w ∈ wB185, goodWord w = true := List.forall_mem_cons.mpr ⟨rfl, oB186⟩
theorem oB184 : ∀ w ∈ wB184, goodWord w = true := List.forall_mem_cons.mpr ⟨rfl, oB185⟩
theorem oB183 : ∀ w ∈ wB183, goodWord w = true := List.forall_mem_cons.mpr ⟨rfl, oB184⟩
theorem oB182 : ∀ w ∈ wB182, goodWord w = true := List.forall_mem_cons.mpr ⟨rfl, oB183⟩
theorem oB181 : ∀ w ∈ wB181, goodWord w = true := List.forall_mem_cons.mpr ⟨rfl, oB182⟩
theorem oB180 : ∀ w ∈ wB180, goodWord w = true := List.forall_mem_cons.mpr ⟨rfl, oB181⟩
theorem oB179 : ∀ w ∈ wB179, goodWord w = true := List.forall_mem_cons.mpr ⟨rfl, oB180⟩
theorem oB178 : ∀ w ∈ wB178, goodWord w = true := List.forall_mem_cons.mpr ⟨rfl, oB179⟩
theorem oB177 : ∀ w ∈ wB177, goodWord w = true := List.forall_mem_cons.mpr ⟨rfl, oB178⟩
theorem oB176 : ∀ w ∈ wB176, goodWord w = true := List.forall_mem_cons.mpr ⟨rfl, oB177⟩
theorem oB175 : ∀ w ∈ wB175, goodWord w = true := List.forall_mem_cons.mpr ⟨rfl, oB176⟩
theorem oB174 : ∀ w ∈ wB174, goodWord w = true := List.forall_mem_cons.mpr ⟨rfl, oB175⟩
theorem oB173 : ∀ w ∈ wB173, goodWord w = true := List.forall_mem_cons.mpr ⟨rfl, oB174⟩
theorem oB172 : ∀ w ∈ wB172, goodWord w = true := List.forall_mem_cons.mpr ⟨rfl, oB173⟩
theorem oB171 : ∀ w ∈ wB171, goodWord w = true := List.forall_mem_cons.mpr ⟨rfl, oB172⟩
theorem oB170 : ∀ w ∈ wB170, goodWord w = true := List.forall_mem_cons.mpr ⟨rfl, oB171⟩
theorem oB169 : ∀ w ∈ wB169, goodWord w = true := List.forall_mem_cons.mpr ⟨rfl, oB170⟩
theorem oB168 : ∀ w ∈ wB168, goodWord w = true := List.forall_mem_cons.mpr ⟨rfl, oB169⟩
theorem oB167 : ∀ w ∈ wB167, goodWord w = true := List.forall_mem_cons.mpr ⟨rfl, oB168⟩
theorem oB166 : ∀ w ∈ wB166, goodWord w = true := List.forall_mem_cons.mpr ⟨rfl, oB167⟩
theorem oB165 : ∀ w ∈ wB165, goodWord w = true := List.forall_mem_cons.mpr ⟨rfl, oB166⟩
theorem oB164 : ∀ w ∈ wB164, goodWord w = true := List.forall_mem_cons.mpr ⟨rfl, oB165⟩
theorem oB163 : ∀ w ∈ wB163, goodWord w = true := List.forall_mem_cons.mpr ⟨rfl, oB164⟩
theorem oB162 : ∀ w ∈ wB162, goodWord w = true := List.forall_mem_cons.mpr ⟨rfl, oB163⟩
theorem oB161 : ∀ w ∈ wB161, goodWord w = true := List.forall_mem_cons.mpr ⟨rfl, oB162⟩
theorem oB160 : ∀ w ∈ wB160, goodWord w = true := List.forall_mem_cons.mpr ⟨rfl, oB161⟩
theorem oB159 : ∀ w ∈ wB159, goodWord w = true := List.forall_mem_cons.mpr ⟨rfl, oB160⟩
theorem oB158 : ∀ w ∈ wB158, goodWord w = true := List.forall_mem_cons.mpr ⟨rfl, oB159⟩
theorem oB157 : ∀ w ∈ wB157, goodWord w = true := List.forall_mem_cons.mpr ⟨rfl, oB158⟩
theorem oB156 : ∀ w ∈ wB156, goodWord w = true := List.forall_mem_cons.mpr ⟨rfl, oB157⟩
theorem oB155 : ∀ w ∈ wB155, goodWord w = true := List.forall_mem_cons.mpr ⟨rfl, oB156⟩
theorem oB154 : ∀ w ∈ wB154, goodWord w = true := List.forall_mem_cons.mpr ⟨rfl, oB155⟩
theorem oB153 : ∀ w ∈ wB153, goodWord w = true := List.forall_mem_cons.mpr ⟨rfl, oB154⟩
theorem oB152 : ∀ w ∈ wB152, goodWord w = true := List.forall_mem_cons.mpr ⟨rfl, oB153⟩
theorem oB151 : ∀ w ∈ wB151, goodWord w = true := List.forall_mem_cons.mpr ⟨rfl, oB152⟩
theorem oB150 : ∀ w ∈ wB150, goodWord w = true := List.forall_mem_cons.mpr ⟨rfl, oB151⟩
theorem oB149 : ∀ w ∈ wB149, goodWord w = true := List.forall_mem_cons.mpr ⟨rfl, oB150⟩
theorem oB148 : ∀ w ∈ wB148, goodWord w = true := List.forall_mem_cons.mpr ⟨rfl, oB149⟩
theorem oB147 : ∀ w ∈ wB147, goodWord w = true := List.forall_mem_cons.mpr ⟨rfl, oB148⟩
theorem oB146 : ∀ w ∈ wB146, goodWord w = true := List.forall_mem_cons.mpr ⟨rfl, oB147⟩
theorem oB145 : ∀ w ∈ wB145, goodWord w = true := List.forall_mem_cons.mpr ⟨rfl, oB146⟩
theorem oB144 : ∀ w ∈ wB144, goodWord w = true := List.forall_mem_cons.mpr ⟨rfl, oB145⟩
theorem oB143 : ∀ w ∈ wB143, goodWord w = true := List.forall_mem_cons.mpr ⟨rfl, oB144⟩
theorem oB142 : ∀ w ∈ wB142, goodWord w = true := List.forall_mem_cons.mpr ⟨rfl, oB143⟩
theorem oB141 : ∀ w ∈ wB141, goodWord w = true := List.forall_mem_cons.mpr ⟨rfl, oB142⟩
theorem oB140 : ∀ w ∈ wB140, goodWord w = true := List.forall_mem_cons.mpr ⟨rfl, oB141⟩
theorem oB139 : ∀ w ∈ wB139, goodWord w = true := List.forall_mem_cons.mpr ⟨rfl, oB140⟩
theorem oB138 : ∀ w ∈ wB138, goodWord w = true := List.forall_mem_cons.mpr ⟨rfl, oB139⟩
theorem oB137 : ∀ w ∈ wB137, goodWord w = true := List.forall_mem_cons.mpr ⟨rfl, oB138⟩
theorem oB136 : ∀ w ∈ wB136, goodWord w = true := List.forall_mem_cons.mpr ⟨rfl, oB137⟩
theorem oB135 : ∀ w ∈ wB135, goodWord w = true := List.forall_mem_cons.mpr ⟨rfl, oB136⟩
theorem oB134 : ∀ w ∈ wB134, goodWord w = true := List.forall_mem_cons.mpr ⟨rfl, oB135⟩
theorem oB133 : ∀ w ∈ wB133, goodWord w = true := List.forall_mem_cons.mpr ⟨rfl, oB134⟩
theorem oB132 : ∀ w ∈ wB132, goodWord w = true := List.forall_mem_cons.mpr ⟨rfl, oB133⟩
theorem oB131 : ∀ w ∈ wB131, goodWord w = true := List.forall_mem_cons.mpr ⟨rfl, oB132⟩
theorem oB130 : ∀ w ∈ wB130, goodWord w = true := List.forall_mem_cons.mpr ⟨rfl, oB131⟩
theorem oB129 : ∀ w ∈ wB129, goodWord w = true := List.forall_mem_cons.mpr ⟨rfl, oB130⟩
theorem oB128 : ∀ w ∈ wB128, goodWord w = true := List.forall_mem_cons.mpr ⟨rfl, oB129⟩
theorem oB127 : ∀ w ∈ wB127, goodWord w = true := List.forall_mem_cons.mpr ⟨rfl, oB128⟩
theorem oB126 : ∀ w ∈ wB126, goodWord w = true := List.forall_mem_cons.mpr ⟨rfl, oB127⟩
theorem oB125 : ∀ w ∈ wB125, goodWord w = true := List.forall_mem_cons.mpr ⟨rfl, oB126⟩
theorem oB124 : ∀ w ∈ wB124, goodWord w = true := List.forall_mem_cons.mpr ⟨rfl, oB125⟩
theorem oB123 : ∀ w ∈ wB123, goodWord w = true := List.forall_mem_cons.mpr ⟨rfl, oB124⟩
theorem oB122 : ∀ w ∈ wB122, goodWord w = true := List.forall_mem_cons.mpr ⟨rfl, oB123⟩
theorem oB121 : ∀ w ∈ wB121, goodWord w = true := List.forall_mem_cons.mpr ⟨rfl, oB122⟩
theorem oB120 : ∀ w ∈ wB120, goodWord w = true := List.forall_mem_cons.mpr ⟨rfl, oB121⟩
theorem oB119 : ∀ w ∈ wB119, goodWord w = true := List.forall_mem_cons.mpr ⟨rfl, oB120⟩
theorem oB118 : ∀ w ∈ wB118, goodWord w = true := List.forall_mem_cons.mpr ⟨rfl, oB119⟩
theorem oB117 : ∀ w ∈ wB117, goodWord w = true := List.forall_mem_cons.mpr ⟨rfl, oB118⟩
theorem oB116 : ∀ w ∈ wB116, goodWord w = true := List.forall_mem_cons.mpr ⟨rfl, oB117⟩
theorem oB115 : ∀ w ∈ wB115, goodWord w = true := List.forall_mem_cons.mpr ⟨rfl, oB116⟩
theorem oB114 : ∀ w ∈ wB114, goodWord w = true := List.forall_mem_cons.mpr ⟨rfl, oB115⟩
theorem oB113 : ∀ w ∈ wB113, goodWord w = true := List.forall_mem_cons.mpr ⟨rfl, oB114⟩
theorem oB112 : ∀ w ∈ wB112, goodWord w = true := List.forall_mem_cons.mpr ⟨rfl, oB113⟩
theorem oB111 : ∀ w ∈ wB111, goodWord w = true := List.forall_mem_cons.mpr ⟨rfl, oB112⟩
theorem oB110 : ∀ w ∈ wB110, goodWord w = true := List.forall_mem_cons.mpr ⟨rfl, oB111⟩
theorem oB109 : ∀ w ∈ wB109, goodWord w = true := List.forall_mem_cons.mpr ⟨rfl, oB110⟩
theorem oB108 : ∀ w ∈ wB108, goodWord w = true := List.forall_mem_cons.mpr ⟨rfl, oB109⟩
theorem oB107 : ∀ w ∈ wB107, goodWord w = true := List.forall_mem_cons.mpr ⟨rfl, oB108⟩
theorem oB106 : ∀ w ∈ wB106, goodWord w = true := List.forall_mem_cons.mpr ⟨rfl, oB107⟩
theorem oB105 : ∀ w ∈ wB105, goodWord w = true := List.forall_mem_cons.mpr ⟨rfl, oB106⟩
theorem oB104 : ∀ w ∈ wB104, goodWord w = true := List.forall_mem_cons.mpr ⟨rfl, oB105⟩
theorem oB103 : ∀ w ∈ wB103, goodWord w = true := List.forall_mem_cons.mpr ⟨rfl, oB104⟩
theorem oB102 : ∀ w ∈ wB102, goodWord w = true := List.forall_mem_cons.mpr ⟨rfl, oB103⟩
theorem oB101 : ∀ w ∈ wB101, goodWord w = true := List.forall_mem_cons.mpr ⟨rfl, oB102⟩
theorem oB100 : ∀ w ∈ wB100, goodWord w = true := List.forall_mem_cons.mpr ⟨rfl, oB101⟩
theorem oB99 : ∀ w ∈ wB99, goodWord w = true := List.forall_mem_cons.mpr ⟨rfl, oB100⟩
theorem oB98 : ∀ w ∈ wB98, goodWord w = true := List.forall_mem_cons.mpr ⟨rfl, oB99⟩
theorem oB97 : ∀ w ∈ wB97, goodWord w = true := List.forall_mem_cons.mpr ⟨rfl, oB98⟩
theorem oB96 : ∀ w ∈ wB96, goodWord w = true := List.forall_mem_cons.mpr ⟨rfl, oB97⟩
theorem oB95 : ∀ w ∈ wB95, goodWord w = true := List.forall_mem_cons.mpr ⟨rfl, oB96⟩
theorem oB94 : ∀ w ∈ wB94, goodWord w = true := List.forall_mem_cons.mpr ⟨rfl, oB95⟩
theorem oB93 : ∀ w ∈ wB93, goodWord w = true := List.forall_mem_cons.mpr ⟨rfl, oB94⟩
theorem oB92 : ∀ w ∈ wB92, goodWord w = true := List.forall_mem_cons.mpr ⟨rfl, oB93⟩
theorem oB91 : ∀ w ∈ wB91, goodWord w = true := List.forall_mem_cons.mpr ⟨rfl, oB92⟩
theorem oB90 : ∀ w ∈ wB90, goodWord w = true := List.forall_mem_cons.mpr ⟨rfl, oB91⟩
theorem oB89 : ∀ w ∈ wB89, goodWord w = true := List.forall_mem_cons.mpr ⟨rfl, oB90⟩
theorem oB88 : ∀ w ∈ wB88, goodWord w = true := List.forall_mem_cons.mpr ⟨rfl, oB89⟩
theorem oB87 : ∀ w ∈ wB87, goodWord w = true := List.forall_mem_cons.mpr ⟨rfl, oB88⟩
theorem oB86 : ∀ w ∈ wB86, goodWord w = true := List.forall_mem_cons.mpr ⟨rfl, oB87⟩
theorem oB85 : ∀ w ∈ wB85, goodWord w = true := List.forall_mem_cons.mpr ⟨rfl, oB86⟩
theorem oB84 : ∀ w ∈ wB84, goodWord w = true := List.forall_mem_cons.mpr ⟨rfl, oB85⟩
theorem oB83 : ∀ w ∈ wB83, goodWord w = true := List.forall_mem_cons.mpr ⟨rfl, oB84⟩
theorem oB82 : ∀ w ∈ wB82, goodWord w = true := List.forall_mem_cons.mpr ⟨rfl, oB83⟩
theorem oB81 : ∀ w ∈ wB81, goodWord w = true := List.forall_mem_cons.mpr ⟨rfl, oB82⟩
theorem oB80 : ∀ w ∈ wB80, goodWord w = true := List.forall_mem_cons.mpr ⟨rfl, oB81⟩
theorem oB79 : ∀ w ∈ wB79, goodWord w = true := List.forall_mem_cons.mpr ⟨rfl, oB80⟩
theorem oB78 : ∀ w ∈ wB78, goodWord w = true := List.forall_mem_cons.mpr ⟨rfl, oB79⟩
theorem oB77 : ∀ w ∈ wB77, goodWord w = true := List.forall_mem_cons.mpr ⟨rfl, oB78⟩
theorem oB76 : ∀ w ∈ wB76, goodWord w = true := List.forall_mem_cons.mpr ⟨rfl, oB77⟩
theorem oB75 : ∀ w ∈ wB75, goodWord w = true := List.forall_mem_cons.mpr ⟨rfl, oB76⟩
theorem oB74 : ∀ w ∈ wB74, goodWord w = true := List.forall_mem_cons.mpr ⟨rfl, oB75⟩
theorem oB73 : ∀ w ∈ wB73, goodWord w = true := List.forall_mem_cons.mpr ⟨rfl, oB74⟩
theorem oB72 : ∀ w ∈ wB72, goodWord w = true := List.forall_mem_cons.mpr ⟨rfl, oB73⟩
theorem oB71 : ∀ w ∈ wB71, goodWord w = true := List.forall_mem_cons.mpr ⟨rfl, oB72⟩
theorem oB70 : ∀ w ∈ wB70, goodWord w = true := List.forall_mem_cons.mpr ⟨rfl, oB71⟩
theorem oB69 : ∀ w ∈ wB69, goodWord w = true := List.forall_mem_cons.mpr ⟨rfl, oB70⟩
theorem oB68 : ∀ w ∈ wB68, goodWord w = true := List.forall_mem_cons.mpr ⟨rfl, oB69⟩
theorem oB67 : ∀ w ∈ wB67, goodWord w = true := List.forall_mem_cons.mpr ⟨rfl, oB68⟩
theorem oB66 : ∀ w ∈ wB66, goodWord w = true := List.forall_mem_cons.mpr ⟨rfl, oB67⟩
theorem oB65 : ∀ w ∈ wB65, goodWord w = true := List.forall_mem_cons.mpr ⟨rfl, oB66⟩
theorem oB64 : ∀ w ∈ wB64, goodWord w = true := List.forall_mem_cons.mpr ⟨rfl, oB65⟩
theorem oB63 : ∀ w ∈ wB63, goodWord w = true := List.forall_mem_cons.mpr ⟨rfl, oB64⟩
theorem oB62 : ∀ w ∈ wB62, goodWord w = true := List.forall_mem_cons.mpr ⟨rfl, oB63⟩
theorem oB61 : ∀ w ∈ wB61, goodWord w = true := List.forall_mem_cons.mpr ⟨rfl, oB62⟩
theorem oB60 : ∀ w ∈ wB60, goodWord w = true := List.forall_mem_cons.mpr ⟨rfl, oB61⟩
theorem oB59 : ∀ w ∈ wB59, goodWord w = true := List.forall_mem_cons.mpr ⟨rfl, oB60⟩
theorem oB58 : ∀ w ∈ wB58, goodWord w = true := List.forall_mem_cons.mpr ⟨rfl, oB59⟩
theorem oB57 : ∀ w ∈ wB57, goodWord w = true := List.forall_mem_cons.mpr ⟨rfl, oB58⟩
theorem oB56 : ∀ w ∈ wB56, goodWord w = true := List.forall_mem_cons.mpr ⟨rfl, oB57⟩
theorem oB55 : ∀ w ∈ wB55, goodWord w = true := List.forall_mem_cons.mpr ⟨rfl, oB56⟩
theorem oB54 : ∀ w ∈ wB54, goodWord w = true := List.forall_mem_cons.mpr ⟨rfl, oB55⟩
theorem oB53 : ∀ w ∈ wB53, goodWord w = true := List.forall_mem_cons.mpr ⟨rfl, oB54⟩
theorem oB52 : ∀ w ∈ wB52, goodWord w = true := List.forall_mem_cons.mpr ⟨rfl, oB53⟩
theorem oB51 : ∀ w ∈ wB51, goodWord w = true := List.forall_mem_cons.mpr ⟨rfl, oB52⟩
theorem oB50 : ∀ w ∈ wB50, goodWord w = true := List.forall_mem_cons.mpr ⟨rfl, oB51⟩
theorem oB49 : ∀ w ∈ wB49, goodWord w = true := List.forall_mem_cons.mpr ⟨rfl, oB50⟩
theorem oB48 : ∀ w ∈ wB48, goodWord w = true := List.forall_mem_cons.mpr ⟨rfl, oB49⟩
theorem oB47 : ∀ w ∈ wB47, goodWord w = true := List.forall_mem_cons.mpr ⟨rfl, oB48⟩
theorem oB46 : ∀ w ∈ wB46, goodWord w = true := List.forall_mem_cons.mpr ⟨rfl, oB47⟩
theorem oB45 : ∀ w ∈ wB45, goodWord w = true := List.forall_mem_cons.mpr ⟨rfl, oB46⟩
theorem oB44 : ∀ w ∈ wB44, goodWord w = true := List.forall_mem_cons.mpr ⟨rfl, oB45⟩
theorem oB43 : ∀ w ∈ wB43, goodWord w = true := List.forall_mem_cons.mpr ⟨rfl, oB44⟩
theorem oB42 : ∀ w ∈ wB42, goodWord w = true := List.forall_mem_cons.mpr ⟨rfl, oB43⟩
theorem oB41 : ∀ w ∈ wB41, goodWord w = true := List.forall_mem_cons.mpr ⟨rfl, oB42⟩
theorem oB40 : ∀ w ∈ wB40, goodWord w = true := List.forall_mem_cons.mpr ⟨rfl, oB41⟩
theorem oB39 : ∀ w ∈ wB39, goodWord w = true := List.forall_mem_cons.mpr ⟨rfl, oB40⟩
theorem oB38 : ∀ w ∈ wB38, goodWord w = true := List.forall_mem_cons.mpr ⟨rfl, oB39⟩
theorem oB37 : ∀ w ∈ wB37, goodWord w = true := List.forall_mem_cons.mpr ⟨rfl, oB38⟩
theorem oB36 : ∀ w ∈ wB36, goodWord w = true := List.forall_mem_cons.mpr ⟨rfl, oB37⟩
theorem oB35 : ∀ w ∈ wB35, goodWord w = true := List.forall_mem_cons.mpr ⟨rfl, oB36⟩
theorem oB34 : ∀ w ∈ wB34, goodWord w = true := List.forall_mem_cons.mpr ⟨rfl, oB35⟩
theorem oB33 : ∀ w ∈ wB33, goodWord w = true := List.forall_mem_cons.mpr ⟨rfl, oB34⟩
theorem oB32 : ∀ w ∈ wB32, goodWord w = true := List.forall_mem_cons.mpr ⟨rfl, oB33⟩
theorem oB31 : ∀ w ∈ wB31, goodWord w = true := List.forall_mem_cons.mpr ⟨rfl, oB32⟩
theorem oB30 : ∀ w ∈ wB30, goodWord w = true := List.forall_mem_cons.mpr ⟨rfl, oB31⟩
theorem oB29 : ∀ w ∈ wB29, goodWord w = true := List.forall_mem_cons.mpr ⟨rfl, oB30⟩
theorem oB28 : ∀ w ∈ wB28, goodWord w = true := List.forall_mem_cons.mpr ⟨rfl, oB29⟩
theorem oB27 : ∀ w ∈ wB27, goodWord w = true := List.forall_mem_cons.mpr ⟨rfl, oB28⟩
theorem oB26 : ∀ w ∈ wB26, goodWord w = true := List.forall_mem_cons.mpr ⟨rfl, oB27⟩
theorem oB25 : ∀ w ∈ wB25, goodWord w = true := List.forall_mem_cons.mpr ⟨rfl, oB26⟩
theorem oB24 : ∀ w ∈ wB24, goodWord w = true := List.forall_mem_cons.mpr ⟨rfl, oB25⟩
theorem oB23 : ∀ w ∈ wB23, goodWord w = true := List.forall_mem_cons.mpr ⟨rfl, oB24⟩
theorem oB22 : ∀ w ∈ wB22, goodWord w = true := List.forall_mem_cons.mpr ⟨rfl, oB23⟩
theorem oB21 : ∀ w ∈ wB21, goodWord w = true := List.forall_mem_cons.mpr ⟨rfl, oB22⟩
theorem oB20 : ∀ w ∈ wB20, goodWord w = true := List.forall_mem_cons.mpr ⟨rfl, oB21⟩
theorem oB19 : ∀ w ∈ wB19, goodWord w = true := List.forall_mem_cons.mpr ⟨rfl, oB20⟩
theorem oB18 : ∀ w ∈ wB18, goodWord w = true := List.forall_mem_cons.mpr ⟨rfl, oB19⟩
theorem oB17 : ∀ w ∈ wB17, goodWord w = true := List.forall_mem_cons.mpr ⟨rfl, oB18⟩
theorem oB16 : ∀ w ∈ wB16, goodWord w = true := List.forall_mem_cons.mpr ⟨rfl, oB17⟩
theorem oB15 : ∀ w ∈ wB15, goodWord w = true := List.forall_mem_cons.mpr ⟨rfl, oB16⟩
theorem oB14 : ∀ w ∈ wB14, goodWord w = true := List.forall_mem_cons.mpr ⟨rfl, oB15⟩
theorem oB13 : ∀ w ∈ wB13, goodWord w = true := List.forall_mem_cons.mpr ⟨rfl, oB14⟩
theorem oB12 : ∀ w ∈ wB12, goodWord w = true := List.forall_mem_cons.mpr ⟨rfl, oB13⟩
theorem oB11 : ∀ w ∈ wB11, goodWord w = true := List.forall_mem_cons.mpr ⟨rfl, oB12⟩
theorem oB10 : ∀ w ∈ wB10, goodWord w = true := List.forall_mem_cons.mpr ⟨rfl, oB11⟩
theorem oB9 : ∀ w ∈ wB9, goodWord w = true := List.forall_mem_cons.mpr ⟨rfl, oB10⟩
theorem oB8 : ∀ w ∈ wB8, goodWord w = true := List.forall_mem_cons.mpr ⟨rfl, oB9⟩
theorem oB7 : ∀ w ∈ wB7, goodWord w = true := List.forall_mem_cons.mpr ⟨rfl, oB8⟩
theorem oB6 : ∀ w ∈ wB6, goodWord w = true := List.forall_mem_cons.mpr ⟨rfl, oB7⟩
theorem oB5 : ∀ w ∈ wB5, goodWord w = true := List.forall_mem_cons.mpr ⟨rfl, oB6⟩
theorem oB4 : ∀ w ∈ wB4, goodWord w = true := List.forall_mem_cons.mpr ⟨rfl, oB5⟩
theorem oB3 : ∀ w ∈ wB3, goodWord w = true := List.forall_mem_cons.mpr ⟨rfl, oB4⟩
theorem oB2 : ∀ w ∈ wB2, goodWord w = true := List.forall_mem_cons.mpr ⟨rfl, oB3⟩
theorem oB1 : ∀ w ∈ wB1, goodWord w = true := List.forall_mem_cons.mpr ⟨rfl, oB2⟩
theorem oB0 : ∀ w ∈ wB0, goodWord w = true := List.forall_mem_cons.mpr ⟨rfl, oB1⟩
theorem oX_0 : ∀ w ∈ wsX00, goodWord w = true := by decide +kernel
theorem oX_1 : ∀ w ∈ wsX10, goodWord w = true := by decide +kernel
theorem oX_2 : ∀ w ∈ wsX20, goodWord w = true := by decide +kernel
theorem oX_3 : ∀ w ∈ wsX30, goodWord w = true := by decide +kernel
theorem oX_4 : ∀ w ∈ wsX40, goodWord w = true := by decide +kernel
theorem oX_5 : ∀ w ∈ wsX50, goodWord w = true := by decide +kernel
theorem oX_6 : ∀ w ∈ wsX60, goodWord w = true := by decide +kernel
theorem oX_7 : ∀ w ∈ wsX70, goodWord w = true := by decide +kernel
theorem oAt : ∀ w ∈ wAt, goodWord w = true := by
  intro w h
  unfold wAt at h
  rcases List.mem_append.mp h with h | h
  · exact (List.mem_filter.mp h).2
  · rcases List.mem_append.mp h with h | h
    · exact (List.mem_filter.mp h).2
    · exact (List.mem_filter.mp h).2
theorem oA0 : ∀ w ∈ wA0, goodWord w = true := by
  intro w h
  unfold wA0 at h
  rcases List.mem_append.mp h with h | h
  · exact oX_0 w h
  rcases List.mem_append.mp h with h | h
  · exact oX_1 w h
  rcases List.mem_append.mp h with h | h
  · exact oX_2 w h
  rcases List.mem_append.mp h with h | h
  · exact oX_3 w h
  rcases List.mem_append.mp h with h | h
  · exact oX_4 w h
  rcases List.mem_append.mp h with h | h
  · exact oX_5 w h
  rcases List.mem_append.mp h with h | h
  · exact oX_6 w h
  rcases List.mem_append.mp h with h | h
  · exact oX_7 w h
  rcases List.mem_append.mp h with h | h
  · exact oAt w h
  · exact oB0 w h
theorem gooV {c0 c1 : Cond} {own C : String} {idx : Nat} {y : MethodName} (h1 : Cond.methodLink own idx y ∈ wA0) (h2 : Cond.instanceMethod y ∈ wA0) (h3 : Cond.selects C y y ∈ wA0) (h4 : Cond.initialized C ∈ wA0) (h5 : c1 ∈ wA0) : GoodIn (c0 :: wA0) (wsV own idx C y (c1 :: wA0)) := by
  intro w hw
  have hm : w ∈ wA0 := by
    unfold wsV at hw
    rcases List.mem_append.mp hw with h | h
    · simp only [List.mem_cons, List.not_mem_nil, or_false] at h
      rcases h with h | h | h | h <;> (rw [h]; assumption)
    · rcases List.mem_cons.mp h with h | h
      · rw [h]; exact h5
      · exact h
  exact ⟨List.mem_cons_of_mem _ hm, good_of_word (oA0 w hm)⟩
theorem gooS {c0 c1 : Cond} {own : String} {idx : Nat} {y : MethodName} (h1 : Cond.methodLink own idx y ∈ wA0) (h2 : Cond.static y ∈ wA0) (h4 : Cond.initialized y.cls ∈ wA0) (h5 : c1 ∈ wA0) : GoodIn (c0 :: wA0) (va_wsS own idx y (c1 :: wA0)) := by
  intro w hw
  have hm : w ∈ wA0 := by
    unfold va_wsS at hw
    rcases List.mem_append.mp hw with h | h
    · simp only [List.mem_cons, List.not_mem_nil, or_false] at h
      rcases h with h | h | h <;> (rw [h]; assumption)
    · rcases List.mem_cons.mp h with h | h
      · rw [h]; exact h5
      · exact h
  exact ⟨List.mem_cons_of_mem _ hm, good_of_word (oA0 w hm)⟩
