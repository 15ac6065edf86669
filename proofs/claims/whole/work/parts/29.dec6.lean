theorem d_Law_law_1184 : decode code 1184 = .ok (.invokevirtual 152, 3) := by decide +kernel
theorem d_Law_law_1187 : decode code 1187 = .ok (.aload_n 2, 1) := by decide +kernel
theorem d_Law_law_1188 : decode code 1188 = .ok (.aload_n 0, 1) := by decide +kernel
theorem d_Law_law_1189 : decode code 1189 = .ok (.iload_n 3, 1) := by decide +kernel
theorem d_Law_law_1190 : decode code 1190 = .ok (.iconst 1, 1) := by decide +kernel
theorem d_Law_law_1191 : decode code 1191 = .ok (.iadd, 1) := by decide +kernel
theorem d_Law_law_1192 : decode code 1192 = .ok (.iaload, 1) := by decide +kernel
theorem d_Law_law_1193 : decode code 1193 = .ok (.aload_n 0, 1) := by decide +kernel
theorem d_Law_law_1194 : decode code 1194 = .ok (.iload_n 3, 1) := by decide +kernel
theorem d_Law_law_1195 : decode code 1195 = .ok (.iconst 2, 1) := by decide +kernel
theorem d_Law_law_1196 : decode code 1196 = .ok (.iadd, 1) := by decide +kernel
theorem d_Law_law_1197 : decode code 1197 = .ok (.iaload, 1) := by decide +kernel
theorem d_Law_law_1198 : decode code 1198 = .ok (.aload_n 0, 1) := by decide +kernel
theorem d_Law_law_1199 : decode code 1199 = .ok (.iload_n 3, 1) := by decide +kernel
theorem d_Law_law_1200 : decode code 1200 = .ok (.iconst 3, 1) := by decide +kernel
theorem d_Law_law_1201 : decode code 1201 = .ok (.iadd, 1) := by decide +kernel
theorem d_Law_law_1202 : decode code 1202 = .ok (.iaload, 1) := by decide +kernel
theorem d_Law_law_1203 : decode code 1203 = .ok (.i2l, 1) := by decide +kernel
theorem d_Law_law_1204 : decode code 1204 = .ok (.bipush 32, 2) := by decide +kernel
theorem d_Law_law_1206 : decode code 1206 = .ok (.lshl, 1) := by decide +kernel
theorem d_Law_law_1207 : decode code 1207 = .ok (.aload_n 0, 1) := by decide +kernel
theorem d_Law_law_1208 : decode code 1208 = .ok (.iload_n 3, 1) := by decide +kernel
theorem d_Law_law_1209 : decode code 1209 = .ok (.iconst 4, 1) := by decide +kernel
theorem d_Law_law_1210 : decode code 1210 = .ok (.iadd, 1) := by decide +kernel
theorem d_Law_law_1211 : decode code 1211 = .ok (.iaload, 1) := by decide +kernel
theorem d_Law_law_1212 : decode code 1212 = .ok (.i2l, 1) := by decide +kernel
theorem d_Law_law_1213 : decode code 1213 = .ok (.ldc2_w 150, 3) := by decide +kernel
theorem d_Law_law_1216 : decode code 1216 = .ok (.land, 1) := by decide +kernel
theorem d_Law_law_1217 : decode code 1217 = .ok (.lor, 1) := by decide +kernel
theorem d_Law_law_1218 : decode code 1218 = .ok (.invokevirtual 156, 3) := by decide +kernel
theorem d_Law_law_1221 : decode code 1221 = .ok (.if_icmp .eq 102, 3) := by decide +kernel
theorem d_Law_law_1224 : decode code 1224 = .ok (.iconst 0, 1) := by decide +kernel
theorem d_Law_law_1226 : decode code 1226 = .ok (.aload_n 1, 1) := by decide +kernel
theorem d_Law_law_1227 : decode code 1227 = .ok (.aload_n 0, 1) := by decide +kernel
theorem d_Law_law_1228 : decode code 1228 = .ok (.iload_n 3, 1) := by decide +kernel
theorem d_Law_law_1229 : decode code 1229 = .ok (.iconst 1, 1) := by decide +kernel
theorem d_Law_law_1230 : decode code 1230 = .ok (.iadd, 1) := by decide +kernel
theorem d_Law_law_1231 : decode code 1231 = .ok (.iaload, 1) := by decide +kernel
theorem d_Law_law_1232 : decode code 1232 = .ok (.aload_n 0, 1) := by decide +kernel
theorem d_Law_law_1233 : decode code 1233 = .ok (.iload_n 3, 1) := by decide +kernel
theorem d_Law_law_1234 : decode code 1234 = .ok (.iconst 2, 1) := by decide +kernel
theorem d_Law_law_1235 : decode code 1235 = .ok (.iadd, 1) := by decide +kernel
theorem d_Law_law_1236 : decode code 1236 = .ok (.iaload, 1) := by decide +kernel
theorem d_Law_law_1237 : decode code 1237 = .ok (.invokevirtual 157, 3) := by decide +kernel
theorem d_Law_law_1240 : decode code 1240 = .ok (.aload_n 2, 1) := by decide +kernel
theorem d_Law_law_1241 : decode code 1241 = .ok (.aload_n 0, 1) := by decide +kernel
theorem d_Law_law_1242 : decode code 1242 = .ok (.iload_n 3, 1) := by decide +kernel
theorem d_Law_law_1243 : decode code 1243 = .ok (.iconst 1, 1) := by decide +kernel
theorem d_Law_law_1244 : decode code 1244 = .ok (.iadd, 1) := by decide +kernel
theorem d_Law_law_1245 : decode code 1245 = .ok (.iaload, 1) := by decide +kernel
theorem d_Law_law_1246 : decode code 1246 = .ok (.aload_n 0, 1) := by decide +kernel
theorem d_Law_law_1247 : decode code 1247 = .ok (.iload_n 3, 1) := by decide +kernel
theorem d_Law_law_1248 : decode code 1248 = .ok (.iconst 2, 1) := by decide +kernel
theorem d_Law_law_1249 : decode code 1249 = .ok (.iadd, 1) := by decide +kernel
theorem d_Law_law_1250 : decode code 1250 = .ok (.iaload, 1) := by decide +kernel
theorem d_Law_law_1251 : decode code 1251 = .ok (.invokevirtual 160, 3) := by decide +kernel
theorem d_Law_law_1254 : decode code 1254 = .ok (.lcmp, 1) := by decide +kernel
theorem d_Law_law_1255 : decode code 1255 = .ok (.ifCond .eq 68, 3) := by decide +kernel
theorem d_Law_law_1258 : decode code 1258 = .ok (.iconst 0, 1) := by decide +kernel
theorem d_Law_law_1260 : decode code 1260 = .ok (.aload_n 1, 1) := by decide +kernel
theorem d_Law_law_1261 : decode code 1261 = .ok (.aload_n 0, 1) := by decide +kernel
theorem d_Law_law_1262 : decode code 1262 = .ok (.iload_n 3, 1) := by decide +kernel
theorem d_Law_law_1263 : decode code 1263 = .ok (.iconst 1, 1) := by decide +kernel
theorem d_Law_law_1264 : decode code 1264 = .ok (.iadd, 1) := by decide +kernel
theorem d_Law_law_1265 : decode code 1265 = .ok (.iaload, 1) := by decide +kernel
theorem d_Law_law_1266 : decode code 1266 = .ok (.aload_n 0, 1) := by decide +kernel
theorem d_Law_law_1267 : decode code 1267 = .ok (.iload_n 3, 1) := by decide +kernel
theorem d_Law_law_1268 : decode code 1268 = .ok (.iconst 2, 1) := by decide +kernel
theorem d_Law_law_1269 : decode code 1269 = .ok (.iadd, 1) := by decide +kernel
theorem d_Law_law_1270 : decode code 1270 = .ok (.iaload, 1) := by decide +kernel
theorem d_Law_law_1271 : decode code 1271 = .ok (.aload_n 0, 1) := by decide +kernel
theorem d_Law_law_1272 : decode code 1272 = .ok (.iload_n 3, 1) := by decide +kernel
theorem d_Law_law_1273 : decode code 1273 = .ok (.iconst 3, 1) := by decide +kernel
theorem d_Law_law_1274 : decode code 1274 = .ok (.iadd, 1) := by decide +kernel
theorem d_Law_law_1275 : decode code 1275 = .ok (.iaload, 1) := by decide +kernel
theorem d_Law_law_1276 : decode code 1276 = .ok (.aload_n 0, 1) := by decide +kernel
theorem d_Law_law_1277 : decode code 1277 = .ok (.iload_n 3, 1) := by decide +kernel
theorem d_Law_law_1278 : decode code 1278 = .ok (.iconst 4, 1) := by decide +kernel
theorem d_Law_law_1279 : decode code 1279 = .ok (.iadd, 1) := by decide +kernel
theorem d_Law_law_1280 : decode code 1280 = .ok (.iaload, 1) := by decide +kernel
theorem d_Law_law_1281 : decode code 1281 = .ok (.aload_n 0, 1) := by decide +kernel
theorem d_Law_law_1282 : decode code 1282 = .ok (.iload_n 3, 1) := by decide +kernel
theorem d_Law_law_1283 : decode code 1283 = .ok (.iconst 5, 1) := by decide +kernel
theorem d_Law_law_1284 : decode code 1284 = .ok (.iadd, 1) := by decide +kernel
theorem d_Law_law_1285 : decode code 1285 = .ok (.iaload, 1) := by decide +kernel
theorem d_Law_law_1286 : decode code 1286 = .ok (.invokevirtual 161, 3) := by decide +kernel
theorem d_Law_law_1289 : decode code 1289 = .ok (.aload_n 2, 1) := by decide +kernel
theorem d_Law_law_1290 : decode code 1290 = .ok (.aload_n 0, 1) := by decide +kernel
theorem d_Law_law_1291 : decode code 1291 = .ok (.iload_n 3, 1) := by decide +kernel
theorem d_Law_law_1292 : decode code 1292 = .ok (.iconst 1, 1) := by decide +kernel
theorem d_Law_law_1293 : decode code 1293 = .ok (.iadd, 1) := by decide +kernel
theorem d_Law_law_1294 : decode code 1294 = .ok (.iaload, 1) := by decide +kernel
theorem d_Law_law_1295 : decode code 1295 = .ok (.aload_n 0, 1) := by decide +kernel
theorem d_Law_law_1296 : decode code 1296 = .ok (.iload_n 3, 1) := by decide +kernel
theorem d_Law_law_1297 : decode code 1297 = .ok (.iconst 2, 1) := by decide +kernel
theorem d_Law_law_1298 : decode code 1298 = .ok (.iadd, 1) := by decide +kernel
theorem d_Law_law_1299 : decode code 1299 = .ok (.iaload, 1) := by decide +kernel
theorem d_Law_law_1300 : decode code 1300 = .ok (.aload_n 0, 1) := by decide +kernel
theorem d_Law_law_1301 : decode code 1301 = .ok (.iload_n 3, 1) := by decide +kernel
theorem d_Law_law_1302 : decode code 1302 = .ok (.iconst 3, 1) := by decide +kernel
theorem d_Law_law_1303 : decode code 1303 = .ok (.iadd, 1) := by decide +kernel
theorem d_Law_law_1304 : decode code 1304 = .ok (.iaload, 1) := by decide +kernel
theorem d_Law_law_1305 : decode code 1305 = .ok (.aload_n 0, 1) := by decide +kernel
theorem d_Law_law_1306 : decode code 1306 = .ok (.iload_n 3, 1) := by decide +kernel
theorem d_Law_law_1307 : decode code 1307 = .ok (.iconst 4, 1) := by decide +kernel
theorem d_Law_law_1308 : decode code 1308 = .ok (.iadd, 1) := by decide +kernel
theorem d_Law_law_1309 : decode code 1309 = .ok (.iaload, 1) := by decide +kernel
theorem d_Law_law_1310 : decode code 1310 = .ok (.aload_n 0, 1) := by decide +kernel
theorem d_Law_law_1311 : decode code 1311 = .ok (.iload_n 3, 1) := by decide +kernel
theorem d_Law_law_1312 : decode code 1312 = .ok (.iconst 5, 1) := by decide +kernel
theorem d_Law_law_1313 : decode code 1313 = .ok (.iadd, 1) := by decide +kernel
theorem d_Law_law_1314 : decode code 1314 = .ok (.iaload, 1) := by decide +kernel
theorem d_Law_law_1315 : decode code 1315 = .ok (.invokevirtual 165, 3) := by decide +kernel
theorem d_Law_law_1318 : decode code 1318 = .ok (.if_icmp .eq 5, 3) := by decide +kernel
theorem d_Law_law_1321 : decode code 1321 = .ok (.iconst 0, 1) := by decide +kernel
theorem d_Law_law_1323 : decode code 1323 = .ok (.iinc 3 6, 3) := by decide +kernel
theorem d_Law_law_1326 : decode code 1326 = .ok (.goto (-1308), 3) := by decide +kernel
theorem d_Law_law_1329 : decode code 1329 = .ok (.iconst 1, 1) := by decide +kernel
theorem d_Law_law_1330 : decode code 1330 = .ok (.ireturn, 1) := by decide +kernel
