theorem dl_1176 : decode code 1176 = .ok (.aload_n 1, 1) := by decide +kernel
theorem dl_1177 : decode code 1177 = .ok (.aload_n 0, 1) := by decide +kernel
theorem dl_1178 : decode code 1178 = .ok (.iload_n 3, 1) := by decide +kernel
theorem dl_1179 : decode code 1179 = .ok (.iconst 1, 1) := by decide +kernel
theorem dl_1180 : decode code 1180 = .ok (.iadd, 1) := by decide +kernel
theorem dl_1181 : decode code 1181 = .ok (.iaload, 1) := by decide +kernel
theorem dl_1182 : decode code 1182 = .ok (.aload_n 0, 1) := by decide +kernel
theorem dl_1183 : decode code 1183 = .ok (.iload_n 3, 1) := by decide +kernel
theorem dl_1184 : decode code 1184 = .ok (.iconst 2, 1) := by decide +kernel
theorem dl_1185 : decode code 1185 = .ok (.iadd, 1) := by decide +kernel
theorem dl_1186 : decode code 1186 = .ok (.iaload, 1) := by decide +kernel
theorem dl_1187 : decode code 1187 = .ok (.aload_n 0, 1) := by decide +kernel
theorem dl_1188 : decode code 1188 = .ok (.iload_n 3, 1) := by decide +kernel
theorem dl_1189 : decode code 1189 = .ok (.iconst 3, 1) := by decide +kernel
theorem dl_1190 : decode code 1190 = .ok (.iadd, 1) := by decide +kernel
theorem dl_1191 : decode code 1191 = .ok (.iaload, 1) := by decide +kernel
theorem dl_1192 : decode code 1192 = .ok (.aload_n 0, 1) := by decide +kernel
theorem dl_1193 : decode code 1193 = .ok (.iload_n 3, 1) := by decide +kernel
theorem dl_1194 : decode code 1194 = .ok (.iconst 4, 1) := by decide +kernel
theorem dl_1195 : decode code 1195 = .ok (.iadd, 1) := by decide +kernel
theorem dl_1196 : decode code 1196 = .ok (.iaload, 1) := by decide +kernel
theorem dl_1197 : decode code 1197 = .ok (.i2l, 1) := by decide +kernel
theorem dl_1198 : decode code 1198 = .ok (.bipush 32, 2) := by decide +kernel
theorem dl_1200 : decode code 1200 = .ok (.lshl, 1) := by decide +kernel
theorem dl_1201 : decode code 1201 = .ok (.aload_n 0, 1) := by decide +kernel
theorem dl_1202 : decode code 1202 = .ok (.iload_n 3, 1) := by decide +kernel
theorem dl_1203 : decode code 1203 = .ok (.iconst 5, 1) := by decide +kernel
theorem dl_1204 : decode code 1204 = .ok (.iadd, 1) := by decide +kernel
theorem dl_1205 : decode code 1205 = .ok (.iaload, 1) := by decide +kernel
theorem dl_1206 : decode code 1206 = .ok (.i2l, 1) := by decide +kernel
theorem dl_1207 : decode code 1207 = .ok (.ldc2_w 156, 3) := by decide +kernel
theorem dl_1210 : decode code 1210 = .ok (.land, 1) := by decide +kernel
theorem dl_1211 : decode code 1211 = .ok (.lor, 1) := by decide +kernel
theorem dl_1212 : decode code 1212 = .ok (.invokevirtual 158, 3) := by decide +kernel
theorem dl_1215 : decode code 1215 = .ok (.pop, 1) := by decide +kernel
theorem dl_1216 : decode code 1216 = .ok (.aload_n 2, 1) := by decide +kernel
theorem dl_1217 : decode code 1217 = .ok (.aload_n 0, 1) := by decide +kernel
theorem dl_1218 : decode code 1218 = .ok (.iload_n 3, 1) := by decide +kernel
theorem dl_1219 : decode code 1219 = .ok (.iconst 1, 1) := by decide +kernel
theorem dl_1220 : decode code 1220 = .ok (.iadd, 1) := by decide +kernel
theorem dl_1221 : decode code 1221 = .ok (.iaload, 1) := by decide +kernel
theorem dl_1222 : decode code 1222 = .ok (.aload_n 0, 1) := by decide +kernel
theorem dl_1223 : decode code 1223 = .ok (.iload_n 3, 1) := by decide +kernel
theorem dl_1224 : decode code 1224 = .ok (.iconst 2, 1) := by decide +kernel
theorem dl_1225 : decode code 1225 = .ok (.iadd, 1) := by decide +kernel
theorem dl_1226 : decode code 1226 = .ok (.iaload, 1) := by decide +kernel
theorem dl_1227 : decode code 1227 = .ok (.aload_n 0, 1) := by decide +kernel
theorem dl_1228 : decode code 1228 = .ok (.iload_n 3, 1) := by decide +kernel
theorem dl_1229 : decode code 1229 = .ok (.iconst 3, 1) := by decide +kernel
theorem dl_1230 : decode code 1230 = .ok (.iadd, 1) := by decide +kernel
theorem dl_1231 : decode code 1231 = .ok (.iaload, 1) := by decide +kernel
theorem dl_1232 : decode code 1232 = .ok (.aload_n 0, 1) := by decide +kernel
theorem dl_1233 : decode code 1233 = .ok (.iload_n 3, 1) := by decide +kernel
theorem dl_1234 : decode code 1234 = .ok (.iconst 4, 1) := by decide +kernel
theorem dl_1235 : decode code 1235 = .ok (.iadd, 1) := by decide +kernel
theorem dl_1236 : decode code 1236 = .ok (.iaload, 1) := by decide +kernel
theorem dl_1237 : decode code 1237 = .ok (.i2l, 1) := by decide +kernel
theorem dl_1238 : decode code 1238 = .ok (.bipush 32, 2) := by decide +kernel
theorem dl_1240 : decode code 1240 = .ok (.lshl, 1) := by decide +kernel
theorem dl_1241 : decode code 1241 = .ok (.aload_n 0, 1) := by decide +kernel
theorem dl_1242 : decode code 1242 = .ok (.iload_n 3, 1) := by decide +kernel
theorem dl_1243 : decode code 1243 = .ok (.iconst 5, 1) := by decide +kernel
theorem dl_1244 : decode code 1244 = .ok (.iadd, 1) := by decide +kernel
theorem dl_1245 : decode code 1245 = .ok (.iaload, 1) := by decide +kernel
theorem dl_1246 : decode code 1246 = .ok (.i2l, 1) := by decide +kernel
theorem dl_1247 : decode code 1247 = .ok (.ldc2_w 156, 3) := by decide +kernel
theorem dl_1250 : decode code 1250 = .ok (.land, 1) := by decide +kernel
theorem dl_1251 : decode code 1251 = .ok (.lor, 1) := by decide +kernel
theorem dl_1252 : decode code 1252 = .ok (.invokevirtual 162, 3) := by decide +kernel
theorem dl_1255 : decode code 1255 = .ok (.pop, 1) := by decide +kernel
theorem dl_1256 : decode code 1256 = .ok (.goto 66, 3) := by decide +kernel
theorem dl_1259 : decode code 1259 = .ok (.aload_n 1, 1) := by decide +kernel
theorem dl_1260 : decode code 1260 = .ok (.aload_n 0, 1) := by decide +kernel
theorem dl_1261 : decode code 1261 = .ok (.iload_n 3, 1) := by decide +kernel
theorem dl_1262 : decode code 1262 = .ok (.iconst 1, 1) := by decide +kernel
theorem dl_1263 : decode code 1263 = .ok (.iadd, 1) := by decide +kernel
theorem dl_1264 : decode code 1264 = .ok (.iaload, 1) := by decide +kernel
theorem dl_1265 : decode code 1265 = .ok (.aload_n 0, 1) := by decide +kernel
theorem dl_1266 : decode code 1266 = .ok (.iload_n 3, 1) := by decide +kernel
theorem dl_1267 : decode code 1267 = .ok (.iconst 2, 1) := by decide +kernel
theorem dl_1268 : decode code 1268 = .ok (.iadd, 1) := by decide +kernel
theorem dl_1269 : decode code 1269 = .ok (.iaload, 1) := by decide +kernel
theorem dl_1270 : decode code 1270 = .ok (.aload_n 0, 1) := by decide +kernel
theorem dl_1271 : decode code 1271 = .ok (.iload_n 3, 1) := by decide +kernel
theorem dl_1272 : decode code 1272 = .ok (.iconst 3, 1) := by decide +kernel
theorem dl_1273 : decode code 1273 = .ok (.iadd, 1) := by decide +kernel
theorem dl_1274 : decode code 1274 = .ok (.iaload, 1) := by decide +kernel
theorem dl_1275 : decode code 1275 = .ok (.aload_n 0, 1) := by decide +kernel
theorem dl_1276 : decode code 1276 = .ok (.iload_n 3, 1) := by decide +kernel
theorem dl_1277 : decode code 1277 = .ok (.iconst 4, 1) := by decide +kernel
theorem dl_1278 : decode code 1278 = .ok (.iadd, 1) := by decide +kernel
theorem dl_1279 : decode code 1279 = .ok (.iaload, 1) := by decide +kernel
theorem dl_1280 : decode code 1280 = .ok (.aload_n 0, 1) := by decide +kernel
theorem dl_1281 : decode code 1281 = .ok (.iload_n 3, 1) := by decide +kernel
theorem dl_1282 : decode code 1282 = .ok (.iconst 5, 1) := by decide +kernel
theorem dl_1283 : decode code 1283 = .ok (.iadd, 1) := by decide +kernel
theorem dl_1284 : decode code 1284 = .ok (.iaload, 1) := by decide +kernel
theorem dl_1285 : decode code 1285 = .ok (.invokevirtual 163, 3) := by decide +kernel
theorem dl_1288 : decode code 1288 = .ok (.pop, 1) := by decide +kernel
theorem dl_1289 : decode code 1289 = .ok (.aload_n 2, 1) := by decide +kernel
theorem dl_1290 : decode code 1290 = .ok (.aload_n 0, 1) := by decide +kernel
theorem dl_1291 : decode code 1291 = .ok (.iload_n 3, 1) := by decide +kernel
theorem dl_1292 : decode code 1292 = .ok (.iconst 1, 1) := by decide +kernel
theorem dl_1293 : decode code 1293 = .ok (.iadd, 1) := by decide +kernel
theorem dl_1294 : decode code 1294 = .ok (.iaload, 1) := by decide +kernel
theorem dl_1295 : decode code 1295 = .ok (.aload_n 0, 1) := by decide +kernel
theorem dl_1296 : decode code 1296 = .ok (.iload_n 3, 1) := by decide +kernel
theorem dl_1297 : decode code 1297 = .ok (.iconst 2, 1) := by decide +kernel
theorem dl_1298 : decode code 1298 = .ok (.iadd, 1) := by decide +kernel
theorem dl_1299 : decode code 1299 = .ok (.iaload, 1) := by decide +kernel
theorem dl_1300 : decode code 1300 = .ok (.aload_n 0, 1) := by decide +kernel
theorem dl_1301 : decode code 1301 = .ok (.iload_n 3, 1) := by decide +kernel
theorem dl_1302 : decode code 1302 = .ok (.iconst 3, 1) := by decide +kernel
theorem dl_1303 : decode code 1303 = .ok (.iadd, 1) := by decide +kernel
theorem dl_1304 : decode code 1304 = .ok (.iaload, 1) := by decide +kernel
theorem dl_1305 : decode code 1305 = .ok (.aload_n 0, 1) := by decide +kernel
theorem dl_1306 : decode code 1306 = .ok (.iload_n 3, 1) := by decide +kernel
theorem dl_1307 : decode code 1307 = .ok (.iconst 4, 1) := by decide +kernel
theorem dl_1308 : decode code 1308 = .ok (.iadd, 1) := by decide +kernel
theorem dl_1309 : decode code 1309 = .ok (.iaload, 1) := by decide +kernel
theorem dl_1310 : decode code 1310 = .ok (.aload_n 0, 1) := by decide +kernel
theorem dl_1311 : decode code 1311 = .ok (.iload_n 3, 1) := by decide +kernel
theorem dl_1312 : decode code 1312 = .ok (.iconst 5, 1) := by decide +kernel
theorem dl_1313 : decode code 1313 = .ok (.iadd, 1) := by decide +kernel
theorem dl_1314 : decode code 1314 = .ok (.iaload, 1) := by decide +kernel
theorem dl_1315 : decode code 1315 = .ok (.invokevirtual 166, 3) := by decide +kernel
theorem dl_1318 : decode code 1318 = .ok (.pop, 1) := by decide +kernel
theorem dl_1319 : decode code 1319 = .ok (.goto 3, 3) := by decide +kernel
theorem dl_1322 : decode code 1322 = .ok (.iinc 3 7, 3) := by decide +kernel
theorem dl_1325 : decode code 1325 = .ok (.goto (-1307), 3) := by decide +kernel
theorem dl_1328 : decode code 1328 = .ok (.iconst 1, 1) := by decide +kernel
theorem dl_1329 : decode code 1329 = .ok (.ireturn, 1) := by decide +kernel
