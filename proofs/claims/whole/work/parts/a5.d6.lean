/-! the law's entry, decoded -/
theorem dL_1182 : decode code 1182 = .ok (.aload_n 2, 1) := by decide +kernel
theorem dL_1183 : decode code 1183 = .ok (.aload_n 0, 1) := by decide +kernel
theorem dL_1184 : decode code 1184 = .ok (.iload_n 3, 1) := by decide +kernel
theorem dL_1185 : decode code 1185 = .ok (.iconst 1, 1) := by decide +kernel
theorem dL_1186 : decode code 1186 = .ok (.iadd, 1) := by decide +kernel
theorem dL_1187 : decode code 1187 = .ok (.iaload, 1) := by decide +kernel
theorem dL_1188 : decode code 1188 = .ok (.invokevirtual 158, 3) := by decide +kernel
theorem dL_1191 : decode code 1191 = .ok (.if_icmp .eq 410, 3) := by decide +kernel
theorem dL_1194 : decode code 1194 = .ok (.iconst 0, 1) := by decide +kernel
theorem dL_1195 : decode code 1195 = .ok (.ireturn, 1) := by decide +kernel
theorem dL_1196 : decode code 1196 = .ok (.aload_n 1, 1) := by decide +kernel
theorem dL_1197 : decode code 1197 = .ok (.aload_n 0, 1) := by decide +kernel
theorem dL_1198 : decode code 1198 = .ok (.iload_n 3, 1) := by decide +kernel
theorem dL_1199 : decode code 1199 = .ok (.iconst 1, 1) := by decide +kernel
theorem dL_1200 : decode code 1200 = .ok (.iadd, 1) := by decide +kernel
theorem dL_1201 : decode code 1201 = .ok (.iaload, 1) := by decide +kernel
theorem dL_1202 : decode code 1202 = .ok (.aload_n 0, 1) := by decide +kernel
theorem dL_1203 : decode code 1203 = .ok (.iload_n 3, 1) := by decide +kernel
theorem dL_1204 : decode code 1204 = .ok (.iconst 2, 1) := by decide +kernel
theorem dL_1205 : decode code 1205 = .ok (.iadd, 1) := by decide +kernel
theorem dL_1206 : decode code 1206 = .ok (.iaload, 1) := by decide +kernel
theorem dL_1207 : decode code 1207 = .ok (.invokevirtual 159, 3) := by decide +kernel
theorem dL_1210 : decode code 1210 = .ok (.aload_n 2, 1) := by decide +kernel
theorem dL_1211 : decode code 1211 = .ok (.aload_n 0, 1) := by decide +kernel
theorem dL_1212 : decode code 1212 = .ok (.iload_n 3, 1) := by decide +kernel
theorem dL_1213 : decode code 1213 = .ok (.iconst 1, 1) := by decide +kernel
theorem dL_1214 : decode code 1214 = .ok (.iadd, 1) := by decide +kernel
theorem dL_1215 : decode code 1215 = .ok (.iaload, 1) := by decide +kernel
theorem dL_1216 : decode code 1216 = .ok (.aload_n 0, 1) := by decide +kernel
theorem dL_1217 : decode code 1217 = .ok (.iload_n 3, 1) := by decide +kernel
theorem dL_1218 : decode code 1218 = .ok (.iconst 2, 1) := by decide +kernel
theorem dL_1219 : decode code 1219 = .ok (.iadd, 1) := by decide +kernel
theorem dL_1220 : decode code 1220 = .ok (.iaload, 1) := by decide +kernel
theorem dL_1221 : decode code 1221 = .ok (.invokevirtual 162, 3) := by decide +kernel
theorem dL_1224 : decode code 1224 = .ok (.if_icmp .eq 377, 3) := by decide +kernel
theorem dL_1227 : decode code 1227 = .ok (.iconst 0, 1) := by decide +kernel
theorem dL_1228 : decode code 1228 = .ok (.ireturn, 1) := by decide +kernel
theorem dL_1229 : decode code 1229 = .ok (.aload_n 1, 1) := by decide +kernel
theorem dL_1230 : decode code 1230 = .ok (.invokevirtual 163, 3) := by decide +kernel
theorem dL_1233 : decode code 1233 = .ok (.aload_n 2, 1) := by decide +kernel
theorem dL_1234 : decode code 1234 = .ok (.invokevirtual 166, 3) := by decide +kernel
theorem dL_1237 : decode code 1237 = .ok (.if_icmp .eq 364, 3) := by decide +kernel
theorem dL_1240 : decode code 1240 = .ok (.iconst 0, 1) := by decide +kernel
theorem dL_1241 : decode code 1241 = .ok (.ireturn, 1) := by decide +kernel
theorem dL_1242 : decode code 1242 = .ok (.aload_n 1, 1) := by decide +kernel
theorem dL_1243 : decode code 1243 = .ok (.invokevirtual 167, 3) := by decide +kernel
theorem dL_1246 : decode code 1246 = .ok (.aload_n 2, 1) := by decide +kernel
theorem dL_1247 : decode code 1247 = .ok (.invokevirtual 170, 3) := by decide +kernel
theorem dL_1250 : decode code 1250 = .ok (.if_icmp .eq 351, 3) := by decide +kernel
theorem dL_1253 : decode code 1253 = .ok (.iconst 0, 1) := by decide +kernel
theorem dL_1254 : decode code 1254 = .ok (.ireturn, 1) := by decide +kernel
theorem dL_1255 : decode code 1255 = .ok (.aload_n 1, 1) := by decide +kernel
theorem dL_1256 : decode code 1256 = .ok (.aload_n 0, 1) := by decide +kernel
theorem dL_1257 : decode code 1257 = .ok (.iload_n 3, 1) := by decide +kernel
theorem dL_1258 : decode code 1258 = .ok (.iconst 1, 1) := by decide +kernel
theorem dL_1259 : decode code 1259 = .ok (.iadd, 1) := by decide +kernel
theorem dL_1260 : decode code 1260 = .ok (.iaload, 1) := by decide +kernel
theorem dL_1261 : decode code 1261 = .ok (.aload_n 0, 1) := by decide +kernel
theorem dL_1262 : decode code 1262 = .ok (.iload_n 3, 1) := by decide +kernel
theorem dL_1263 : decode code 1263 = .ok (.iconst 2, 1) := by decide +kernel
theorem dL_1264 : decode code 1264 = .ok (.iadd, 1) := by decide +kernel
theorem dL_1265 : decode code 1265 = .ok (.iaload, 1) := by decide +kernel
theorem dL_1266 : decode code 1266 = .ok (.invokevirtual 171, 3) := by decide +kernel
theorem dL_1269 : decode code 1269 = .ok (.aload_n 2, 1) := by decide +kernel
theorem dL_1270 : decode code 1270 = .ok (.aload_n 0, 1) := by decide +kernel
theorem dL_1271 : decode code 1271 = .ok (.iload_n 3, 1) := by decide +kernel
theorem dL_1272 : decode code 1272 = .ok (.iconst 1, 1) := by decide +kernel
theorem dL_1273 : decode code 1273 = .ok (.iadd, 1) := by decide +kernel
theorem dL_1274 : decode code 1274 = .ok (.iaload, 1) := by decide +kernel
theorem dL_1275 : decode code 1275 = .ok (.aload_n 0, 1) := by decide +kernel
theorem dL_1276 : decode code 1276 = .ok (.iload_n 3, 1) := by decide +kernel
theorem dL_1277 : decode code 1277 = .ok (.iconst 2, 1) := by decide +kernel
theorem dL_1278 : decode code 1278 = .ok (.iadd, 1) := by decide +kernel
theorem dL_1279 : decode code 1279 = .ok (.iaload, 1) := by decide +kernel
theorem dL_1280 : decode code 1280 = .ok (.invokevirtual 174, 3) := by decide +kernel
theorem dL_1283 : decode code 1283 = .ok (.if_icmp .eq 318, 3) := by decide +kernel
theorem dL_1286 : decode code 1286 = .ok (.iconst 0, 1) := by decide +kernel
theorem dL_1287 : decode code 1287 = .ok (.ireturn, 1) := by decide +kernel
theorem dL_1288 : decode code 1288 = .ok (.aload_n 1, 1) := by decide +kernel
theorem dL_1289 : decode code 1289 = .ok (.aload_n 0, 1) := by decide +kernel
theorem dL_1290 : decode code 1290 = .ok (.iload_n 3, 1) := by decide +kernel
theorem dL_1291 : decode code 1291 = .ok (.iconst 1, 1) := by decide +kernel
theorem dL_1292 : decode code 1292 = .ok (.iadd, 1) := by decide +kernel
theorem dL_1293 : decode code 1293 = .ok (.iaload, 1) := by decide +kernel
theorem dL_1294 : decode code 1294 = .ok (.aload_n 0, 1) := by decide +kernel
theorem dL_1295 : decode code 1295 = .ok (.iload_n 3, 1) := by decide +kernel
theorem dL_1296 : decode code 1296 = .ok (.iconst 2, 1) := by decide +kernel
theorem dL_1297 : decode code 1297 = .ok (.iadd, 1) := by decide +kernel
theorem dL_1298 : decode code 1298 = .ok (.iaload, 1) := by decide +kernel
theorem dL_1299 : decode code 1299 = .ok (.invokevirtual 175, 3) := by decide +kernel
theorem dL_1302 : decode code 1302 = .ok (.aload_n 2, 1) := by decide +kernel
theorem dL_1303 : decode code 1303 = .ok (.aload_n 0, 1) := by decide +kernel
theorem dL_1304 : decode code 1304 = .ok (.iload_n 3, 1) := by decide +kernel
theorem dL_1305 : decode code 1305 = .ok (.iconst 1, 1) := by decide +kernel
theorem dL_1306 : decode code 1306 = .ok (.iadd, 1) := by decide +kernel
theorem dL_1307 : decode code 1307 = .ok (.iaload, 1) := by decide +kernel
theorem dL_1308 : decode code 1308 = .ok (.aload_n 0, 1) := by decide +kernel
theorem dL_1309 : decode code 1309 = .ok (.iload_n 3, 1) := by decide +kernel
theorem dL_1310 : decode code 1310 = .ok (.iconst 2, 1) := by decide +kernel
theorem dL_1311 : decode code 1311 = .ok (.iadd, 1) := by decide +kernel
theorem dL_1312 : decode code 1312 = .ok (.iaload, 1) := by decide +kernel
theorem dL_1313 : decode code 1313 = .ok (.invokevirtual 178, 3) := by decide +kernel
theorem dL_1316 : decode code 1316 = .ok (.if_icmp .eq 285, 3) := by decide +kernel
theorem dL_1319 : decode code 1319 = .ok (.iconst 0, 1) := by decide +kernel
theorem dL_1320 : decode code 1320 = .ok (.ireturn, 1) := by decide +kernel
theorem dL_1321 : decode code 1321 = .ok (.aload_n 1, 1) := by decide +kernel
theorem dL_1322 : decode code 1322 = .ok (.aload_n 0, 1) := by decide +kernel
theorem dL_1323 : decode code 1323 = .ok (.iload_n 3, 1) := by decide +kernel
theorem dL_1324 : decode code 1324 = .ok (.iconst 1, 1) := by decide +kernel
theorem dL_1325 : decode code 1325 = .ok (.iadd, 1) := by decide +kernel
theorem dL_1326 : decode code 1326 = .ok (.iaload, 1) := by decide +kernel
theorem dL_1327 : decode code 1327 = .ok (.aload_n 0, 1) := by decide +kernel
theorem dL_1328 : decode code 1328 = .ok (.iload_n 3, 1) := by decide +kernel
theorem dL_1329 : decode code 1329 = .ok (.iconst 2, 1) := by decide +kernel
theorem dL_1330 : decode code 1330 = .ok (.iadd, 1) := by decide +kernel
theorem dL_1331 : decode code 1331 = .ok (.iaload, 1) := by decide +kernel
theorem dL_1332 : decode code 1332 = .ok (.aload_n 0, 1) := by decide +kernel
theorem dL_1333 : decode code 1333 = .ok (.iload_n 3, 1) := by decide +kernel
theorem dL_1334 : decode code 1334 = .ok (.iconst 3, 1) := by decide +kernel
theorem dL_1335 : decode code 1335 = .ok (.iadd, 1) := by decide +kernel
theorem dL_1336 : decode code 1336 = .ok (.iaload, 1) := by decide +kernel
theorem dL_1337 : decode code 1337 = .ok (.invokevirtual 179, 3) := by decide +kernel
theorem dL_1340 : decode code 1340 = .ok (.aload_n 2, 1) := by decide +kernel
theorem dL_1341 : decode code 1341 = .ok (.aload_n 0, 1) := by decide +kernel
theorem dL_1342 : decode code 1342 = .ok (.iload_n 3, 1) := by decide +kernel
theorem dL_1343 : decode code 1343 = .ok (.iconst 1, 1) := by decide +kernel
theorem dL_1344 : decode code 1344 = .ok (.iadd, 1) := by decide +kernel
theorem dL_1345 : decode code 1345 = .ok (.iaload, 1) := by decide +kernel
theorem dL_1346 : decode code 1346 = .ok (.aload_n 0, 1) := by decide +kernel
theorem dL_1347 : decode code 1347 = .ok (.iload_n 3, 1) := by decide +kernel
theorem dL_1348 : decode code 1348 = .ok (.iconst 2, 1) := by decide +kernel
theorem dL_1349 : decode code 1349 = .ok (.iadd, 1) := by decide +kernel
theorem dL_1350 : decode code 1350 = .ok (.iaload, 1) := by decide +kernel
theorem dL_1351 : decode code 1351 = .ok (.aload_n 0, 1) := by decide +kernel
theorem dL_1352 : decode code 1352 = .ok (.iload_n 3, 1) := by decide +kernel
theorem dL_1353 : decode code 1353 = .ok (.iconst 3, 1) := by decide +kernel
theorem dL_1354 : decode code 1354 = .ok (.iadd, 1) := by decide +kernel
theorem dL_1355 : decode code 1355 = .ok (.iaload, 1) := by decide +kernel
theorem dL_1356 : decode code 1356 = .ok (.invokevirtual 182, 3) := by decide +kernel
theorem dL_1359 : decode code 1359 = .ok (.if_icmp .eq 242, 3) := by decide +kernel
theorem dL_1362 : decode code 1362 = .ok (.iconst 0, 1) := by decide +kernel
theorem dL_1363 : decode code 1363 = .ok (.ireturn, 1) := by decide +kernel
theorem dL_1364 : decode code 1364 = .ok (.aload_n 1, 1) := by decide +kernel
theorem dL_1365 : decode code 1365 = .ok (.aload_n 0, 1) := by decide +kernel
theorem dL_1366 : decode code 1366 = .ok (.iload_n 3, 1) := by decide +kernel
theorem dL_1367 : decode code 1367 = .ok (.iconst 1, 1) := by decide +kernel
theorem dL_1368 : decode code 1368 = .ok (.iadd, 1) := by decide +kernel
theorem dL_1369 : decode code 1369 = .ok (.iaload, 1) := by decide +kernel
theorem dL_1370 : decode code 1370 = .ok (.aload_n 0, 1) := by decide +kernel
theorem dL_1371 : decode code 1371 = .ok (.iload_n 3, 1) := by decide +kernel
