def dt211_L_law : List (Nat × Instr × Nat) := [(1366, (.if_icmp .ne 7, 3)), (1373, (.iconst 0, 1)), (1369, (.iconst 1, 1)), (1370, (.goto 4, 3)), (1337, (.istore 29, 2)), (1339, (.aload_n 1, 1)), (1340, (.iload 28, 2)), (1342, (.iload 29, 2)), (1344, (.invokevirtual 221, 3)), (1347, (.aload 13, 2)), (1349, (.bipush 12, 2)), (1351, (.iload 28, 2)), (1353, (.imul, 1)), (1354, (.iconst 3, 1)), (1355, (.iadd, 1)), (1356, (.iaload, 1)), (1357, (.iconst 1, 1)), (1358, (.if_icmp .ne 7, 3)), (1365, (.iconst 0, 1)), (1361, (.iconst 1, 1)), (1362, (.goto 4, 3)), (1302, (.iload 23, 2)), (1304, (.bipush 13, 2)), (1306, (.if_icmp .ne 129, 3)), (1309, (.aload_n 2, 1)), (1310, (.iconst 2, 1)), (1311, (.iaload, 1)), (1312, (.ifCond .le 123, 3)), (1315, (.iload 24, 2)), (1317, (.aload_n 2, 1)), (1318, (.iconst 2, 1)), (1319, (.iaload, 1)), (1320, (.irem, 1)), (1321, (.istore 28, 2)), (1323, (.iload 24, 2)), (1325, (.iconst 4, 1)), (1326, (.idiv, 1)), (1327, (.iconst 2, 1)), (1328, (.irem, 1)), (1329, (.ifCond .ne 7, 3)), (1336, (.iconst 0, 1)), (1332, (.iconst 1, 1)), (1333, (.goto 4, 3)), (1299, (.goto 1399, 3)), (1285, (.istore 20, 2)), (1287, (.aload_n 2, 1)), (1288, (.aload 15, 2)), (1290, (.aload 16, 2)), (1292, (.aload 17, 2)), (1294, (.iload 28, 2)), (1296, (.invokestatic 217, 3)), (1162, (.istore 31, 2)), (1164, (.iload 31, 2)), (1166, (.ifCond .eq 133, 3)), (1169, (.aload 13, 2)), (1171, (.bipush 12, 2)), (1173, (.iload 28, 2)), (1175, (.imul, 1)), (1176, (.bipush 7, 2)), (1178, (.iadd, 1))]
theorem dt211_L_law_ok : ∀ q ∈ dt211_L_law, decode cL_law q.1 = .ok q.2 := by decide +kernel
theorem dL_law_1366 : decode cL_law 1366 = .ok (.if_icmp .ne 7, 3) := g_dec dt211_L_law_ok (k := 0) rfl
theorem dL_law_1373 : decode cL_law 1373 = .ok (.iconst 0, 1) := g_dec dt211_L_law_ok (k := 1) rfl
theorem dL_law_1369 : decode cL_law 1369 = .ok (.iconst 1, 1) := g_dec dt211_L_law_ok (k := 2) rfl
theorem dL_law_1370 : decode cL_law 1370 = .ok (.goto 4, 3) := g_dec dt211_L_law_ok (k := 3) rfl
theorem dL_law_1337 : decode cL_law 1337 = .ok (.istore 29, 2) := g_dec dt211_L_law_ok (k := 4) rfl
theorem dL_law_1339 : decode cL_law 1339 = .ok (.aload_n 1, 1) := g_dec dt211_L_law_ok (k := 5) rfl
theorem dL_law_1340 : decode cL_law 1340 = .ok (.iload 28, 2) := g_dec dt211_L_law_ok (k := 6) rfl
theorem dL_law_1342 : decode cL_law 1342 = .ok (.iload 29, 2) := g_dec dt211_L_law_ok (k := 7) rfl
theorem dL_law_1344 : decode cL_law 1344 = .ok (.invokevirtual 221, 3) := g_dec dt211_L_law_ok (k := 8) rfl
theorem dL_law_1347 : decode cL_law 1347 = .ok (.aload 13, 2) := g_dec dt211_L_law_ok (k := 9) rfl
theorem dL_law_1349 : decode cL_law 1349 = .ok (.bipush 12, 2) := g_dec dt211_L_law_ok (k := 10) rfl
theorem dL_law_1351 : decode cL_law 1351 = .ok (.iload 28, 2) := g_dec dt211_L_law_ok (k := 11) rfl
theorem dL_law_1353 : decode cL_law 1353 = .ok (.imul, 1) := g_dec dt211_L_law_ok (k := 12) rfl
theorem dL_law_1354 : decode cL_law 1354 = .ok (.iconst 3, 1) := g_dec dt211_L_law_ok (k := 13) rfl
theorem dL_law_1355 : decode cL_law 1355 = .ok (.iadd, 1) := g_dec dt211_L_law_ok (k := 14) rfl
theorem dL_law_1356 : decode cL_law 1356 = .ok (.iaload, 1) := g_dec dt211_L_law_ok (k := 15) rfl
theorem dL_law_1357 : decode cL_law 1357 = .ok (.iconst 1, 1) := g_dec dt211_L_law_ok (k := 16) rfl
theorem dL_law_1358 : decode cL_law 1358 = .ok (.if_icmp .ne 7, 3) := g_dec dt211_L_law_ok (k := 17) rfl
theorem dL_law_1365 : decode cL_law 1365 = .ok (.iconst 0, 1) := g_dec dt211_L_law_ok (k := 18) rfl
theorem dL_law_1361 : decode cL_law 1361 = .ok (.iconst 1, 1) := g_dec dt211_L_law_ok (k := 19) rfl
theorem dL_law_1362 : decode cL_law 1362 = .ok (.goto 4, 3) := g_dec dt211_L_law_ok (k := 20) rfl
theorem dL_law_1302 : decode cL_law 1302 = .ok (.iload 23, 2) := g_dec dt211_L_law_ok (k := 21) rfl
theorem dL_law_1304 : decode cL_law 1304 = .ok (.bipush 13, 2) := g_dec dt211_L_law_ok (k := 22) rfl
theorem dL_law_1306 : decode cL_law 1306 = .ok (.if_icmp .ne 129, 3) := g_dec dt211_L_law_ok (k := 23) rfl
theorem dL_law_1309 : decode cL_law 1309 = .ok (.aload_n 2, 1) := g_dec dt211_L_law_ok (k := 24) rfl
theorem dL_law_1310 : decode cL_law 1310 = .ok (.iconst 2, 1) := g_dec dt211_L_law_ok (k := 25) rfl
theorem dL_law_1311 : decode cL_law 1311 = .ok (.iaload, 1) := g_dec dt211_L_law_ok (k := 26) rfl
theorem dL_law_1312 : decode cL_law 1312 = .ok (.ifCond .le 123, 3) := g_dec dt211_L_law_ok (k := 27) rfl
theorem dL_law_1315 : decode cL_law 1315 = .ok (.iload 24, 2) := g_dec dt211_L_law_ok (k := 28) rfl
theorem dL_law_1317 : decode cL_law 1317 = .ok (.aload_n 2, 1) := g_dec dt211_L_law_ok (k := 29) rfl
theorem dL_law_1318 : decode cL_law 1318 = .ok (.iconst 2, 1) := g_dec dt211_L_law_ok (k := 30) rfl
theorem dL_law_1319 : decode cL_law 1319 = .ok (.iaload, 1) := g_dec dt211_L_law_ok (k := 31) rfl
theorem dL_law_1320 : decode cL_law 1320 = .ok (.irem, 1) := g_dec dt211_L_law_ok (k := 32) rfl
theorem dL_law_1321 : decode cL_law 1321 = .ok (.istore 28, 2) := g_dec dt211_L_law_ok (k := 33) rfl
theorem dL_law_1323 : decode cL_law 1323 = .ok (.iload 24, 2) := g_dec dt211_L_law_ok (k := 34) rfl
theorem dL_law_1325 : decode cL_law 1325 = .ok (.iconst 4, 1) := g_dec dt211_L_law_ok (k := 35) rfl
theorem dL_law_1326 : decode cL_law 1326 = .ok (.idiv, 1) := g_dec dt211_L_law_ok (k := 36) rfl
theorem dL_law_1327 : decode cL_law 1327 = .ok (.iconst 2, 1) := g_dec dt211_L_law_ok (k := 37) rfl
theorem dL_law_1328 : decode cL_law 1328 = .ok (.irem, 1) := g_dec dt211_L_law_ok (k := 38) rfl
theorem dL_law_1329 : decode cL_law 1329 = .ok (.ifCond .ne 7, 3) := g_dec dt211_L_law_ok (k := 39) rfl
theorem dL_law_1336 : decode cL_law 1336 = .ok (.iconst 0, 1) := g_dec dt211_L_law_ok (k := 40) rfl
theorem dL_law_1332 : decode cL_law 1332 = .ok (.iconst 1, 1) := g_dec dt211_L_law_ok (k := 41) rfl
theorem dL_law_1333 : decode cL_law 1333 = .ok (.goto 4, 3) := g_dec dt211_L_law_ok (k := 42) rfl
theorem dL_law_1299 : decode cL_law 1299 = .ok (.goto 1399, 3) := g_dec dt211_L_law_ok (k := 43) rfl
theorem dL_law_1285 : decode cL_law 1285 = .ok (.istore 20, 2) := g_dec dt211_L_law_ok (k := 44) rfl
theorem dL_law_1287 : decode cL_law 1287 = .ok (.aload_n 2, 1) := g_dec dt211_L_law_ok (k := 45) rfl
theorem dL_law_1288 : decode cL_law 1288 = .ok (.aload 15, 2) := g_dec dt211_L_law_ok (k := 46) rfl
theorem dL_law_1290 : decode cL_law 1290 = .ok (.aload 16, 2) := g_dec dt211_L_law_ok (k := 47) rfl
theorem dL_law_1292 : decode cL_law 1292 = .ok (.aload 17, 2) := g_dec dt211_L_law_ok (k := 48) rfl
theorem dL_law_1294 : decode cL_law 1294 = .ok (.iload 28, 2) := g_dec dt211_L_law_ok (k := 49) rfl
theorem dL_law_1296 : decode cL_law 1296 = .ok (.invokestatic 217, 3) := g_dec dt211_L_law_ok (k := 50) rfl
theorem dL_law_1162 : decode cL_law 1162 = .ok (.istore 31, 2) := g_dec dt211_L_law_ok (k := 51) rfl
theorem dL_law_1164 : decode cL_law 1164 = .ok (.iload 31, 2) := g_dec dt211_L_law_ok (k := 52) rfl
theorem dL_law_1166 : decode cL_law 1166 = .ok (.ifCond .eq 133, 3) := g_dec dt211_L_law_ok (k := 53) rfl
theorem dL_law_1169 : decode cL_law 1169 = .ok (.aload 13, 2) := g_dec dt211_L_law_ok (k := 54) rfl
theorem dL_law_1171 : decode cL_law 1171 = .ok (.bipush 12, 2) := g_dec dt211_L_law_ok (k := 55) rfl
theorem dL_law_1173 : decode cL_law 1173 = .ok (.iload 28, 2) := g_dec dt211_L_law_ok (k := 56) rfl
theorem dL_law_1175 : decode cL_law 1175 = .ok (.imul, 1) := g_dec dt211_L_law_ok (k := 57) rfl
theorem dL_law_1176 : decode cL_law 1176 = .ok (.bipush 7, 2) := g_dec dt211_L_law_ok (k := 58) rfl
theorem dL_law_1178 : decode cL_law 1178 = .ok (.iadd, 1) := g_dec dt211_L_law_ok (k := 59) rfl
def dt212_L_law : List (Nat × Instr × Nat) := [(1179, (.aload 13, 2)), (1181, (.bipush 12, 2)), (1183, (.iload 28, 2)), (1185, (.imul, 1)), (1186, (.iconst 4, 1)), (1187, (.iadd, 1)), (1188, (.iaload, 1)), (1189, (.iadd, 1)), (1190, (.iload 29, 2)), (1192, (.bipush 16, 2)), (1194, (.iload 24, 2)), (1196, (.bipush 64, 2)), (1198, (.idiv, 1)), (1199, (.bipush 10, 2)), (1201, (.irem, 1)), (1202, (.imul, 1)), (1203, (.iadd, 1)), (1204, (.sipush 256, 3)), (1207, (.iload 30, 2)), (1209, (.imul, 1)), (1210, (.iadd, 1)), (1211, (.sipush 4096, 3)), (1214, (.iload 24, 2)), (1216, (.sipush 640, 3)), (1219, (.idiv, 1)), (1220, (.bipush 10, 2)), (1222, (.irem, 1)), (1223, (.imul, 1)), (1224, (.iadd, 1)), (1225, (.iastore, 1)), (1226, (.aload 13, 2)), (1228, (.bipush 12, 2)), (1230, (.iload 28, 2)), (1232, (.imul, 1)), (1233, (.iconst 4, 1)), (1234, (.iadd, 1)), (1235, (.dup2, 1)), (1236, (.iaload, 1)), (1237, (.iconst 1, 1)), (1238, (.iadd, 1)), (1239, (.iastore, 1)), (1240, (.aload_n 1, 1)), (1241, (.iload 28, 2)), (1243, (.iload 29, 2)), (1245, (.iload 24, 2)), (1247, (.bipush 64, 2)), (1249, (.idiv, 1)), (1250, (.bipush 10, 2)), (1252, (.irem, 1)), (1253, (.iload 30, 2)), (1255, (.iload 24, 2)), (1257, (.sipush 640, 3)), (1260, (.idiv, 1)), (1261, (.bipush 10, 2)), (1263, (.irem, 1)), (1264, (.invokevirtual 213, 3)), (1267, (.aload 13, 2)), (1269, (.bipush 12, 2)), (1271, (.iload 28, 2)), (1273, (.imul, 1))]
theorem dt212_L_law_ok : ∀ q ∈ dt212_L_law, decode cL_law q.1 = .ok q.2 := by decide +kernel
theorem dL_law_1179 : decode cL_law 1179 = .ok (.aload 13, 2) := g_dec dt212_L_law_ok (k := 0) rfl
theorem dL_law_1181 : decode cL_law 1181 = .ok (.bipush 12, 2) := g_dec dt212_L_law_ok (k := 1) rfl
theorem dL_law_1183 : decode cL_law 1183 = .ok (.iload 28, 2) := g_dec dt212_L_law_ok (k := 2) rfl
theorem dL_law_1185 : decode cL_law 1185 = .ok (.imul, 1) := g_dec dt212_L_law_ok (k := 3) rfl
theorem dL_law_1186 : decode cL_law 1186 = .ok (.iconst 4, 1) := g_dec dt212_L_law_ok (k := 4) rfl
theorem dL_law_1187 : decode cL_law 1187 = .ok (.iadd, 1) := g_dec dt212_L_law_ok (k := 5) rfl
theorem dL_law_1188 : decode cL_law 1188 = .ok (.iaload, 1) := g_dec dt212_L_law_ok (k := 6) rfl
theorem dL_law_1189 : decode cL_law 1189 = .ok (.iadd, 1) := g_dec dt212_L_law_ok (k := 7) rfl
theorem dL_law_1190 : decode cL_law 1190 = .ok (.iload 29, 2) := g_dec dt212_L_law_ok (k := 8) rfl
theorem dL_law_1192 : decode cL_law 1192 = .ok (.bipush 16, 2) := g_dec dt212_L_law_ok (k := 9) rfl
theorem dL_law_1194 : decode cL_law 1194 = .ok (.iload 24, 2) := g_dec dt212_L_law_ok (k := 10) rfl
theorem dL_law_1196 : decode cL_law 1196 = .ok (.bipush 64, 2) := g_dec dt212_L_law_ok (k := 11) rfl
theorem dL_law_1198 : decode cL_law 1198 = .ok (.idiv, 1) := g_dec dt212_L_law_ok (k := 12) rfl
theorem dL_law_1199 : decode cL_law 1199 = .ok (.bipush 10, 2) := g_dec dt212_L_law_ok (k := 13) rfl
theorem dL_law_1201 : decode cL_law 1201 = .ok (.irem, 1) := g_dec dt212_L_law_ok (k := 14) rfl
theorem dL_law_1202 : decode cL_law 1202 = .ok (.imul, 1) := g_dec dt212_L_law_ok (k := 15) rfl
theorem dL_law_1203 : decode cL_law 1203 = .ok (.iadd, 1) := g_dec dt212_L_law_ok (k := 16) rfl
theorem dL_law_1204 : decode cL_law 1204 = .ok (.sipush 256, 3) := g_dec dt212_L_law_ok (k := 17) rfl
theorem dL_law_1207 : decode cL_law 1207 = .ok (.iload 30, 2) := g_dec dt212_L_law_ok (k := 18) rfl
theorem dL_law_1209 : decode cL_law 1209 = .ok (.imul, 1) := g_dec dt212_L_law_ok (k := 19) rfl
theorem dL_law_1210 : decode cL_law 1210 = .ok (.iadd, 1) := g_dec dt212_L_law_ok (k := 20) rfl
theorem dL_law_1211 : decode cL_law 1211 = .ok (.sipush 4096, 3) := g_dec dt212_L_law_ok (k := 21) rfl
theorem dL_law_1214 : decode cL_law 1214 = .ok (.iload 24, 2) := g_dec dt212_L_law_ok (k := 22) rfl
theorem dL_law_1216 : decode cL_law 1216 = .ok (.sipush 640, 3) := g_dec dt212_L_law_ok (k := 23) rfl
theorem dL_law_1219 : decode cL_law 1219 = .ok (.idiv, 1) := g_dec dt212_L_law_ok (k := 24) rfl
theorem dL_law_1220 : decode cL_law 1220 = .ok (.bipush 10, 2) := g_dec dt212_L_law_ok (k := 25) rfl
theorem dL_law_1222 : decode cL_law 1222 = .ok (.irem, 1) := g_dec dt212_L_law_ok (k := 26) rfl
theorem dL_law_1223 : decode cL_law 1223 = .ok (.imul, 1) := g_dec dt212_L_law_ok (k := 27) rfl
theorem dL_law_1224 : decode cL_law 1224 = .ok (.iadd, 1) := g_dec dt212_L_law_ok (k := 28) rfl
theorem dL_law_1225 : decode cL_law 1225 = .ok (.iastore, 1) := g_dec dt212_L_law_ok (k := 29) rfl
theorem dL_law_1226 : decode cL_law 1226 = .ok (.aload 13, 2) := g_dec dt212_L_law_ok (k := 30) rfl
theorem dL_law_1228 : decode cL_law 1228 = .ok (.bipush 12, 2) := g_dec dt212_L_law_ok (k := 31) rfl
theorem dL_law_1230 : decode cL_law 1230 = .ok (.iload 28, 2) := g_dec dt212_L_law_ok (k := 32) rfl
theorem dL_law_1232 : decode cL_law 1232 = .ok (.imul, 1) := g_dec dt212_L_law_ok (k := 33) rfl
theorem dL_law_1233 : decode cL_law 1233 = .ok (.iconst 4, 1) := g_dec dt212_L_law_ok (k := 34) rfl
theorem dL_law_1234 : decode cL_law 1234 = .ok (.iadd, 1) := g_dec dt212_L_law_ok (k := 35) rfl
theorem dL_law_1235 : decode cL_law 1235 = .ok (.dup2, 1) := g_dec dt212_L_law_ok (k := 36) rfl
theorem dL_law_1236 : decode cL_law 1236 = .ok (.iaload, 1) := g_dec dt212_L_law_ok (k := 37) rfl
theorem dL_law_1237 : decode cL_law 1237 = .ok (.iconst 1, 1) := g_dec dt212_L_law_ok (k := 38) rfl
theorem dL_law_1238 : decode cL_law 1238 = .ok (.iadd, 1) := g_dec dt212_L_law_ok (k := 39) rfl
theorem dL_law_1239 : decode cL_law 1239 = .ok (.iastore, 1) := g_dec dt212_L_law_ok (k := 40) rfl
theorem dL_law_1240 : decode cL_law 1240 = .ok (.aload_n 1, 1) := g_dec dt212_L_law_ok (k := 41) rfl
theorem dL_law_1241 : decode cL_law 1241 = .ok (.iload 28, 2) := g_dec dt212_L_law_ok (k := 42) rfl
theorem dL_law_1243 : decode cL_law 1243 = .ok (.iload 29, 2) := g_dec dt212_L_law_ok (k := 43) rfl
theorem dL_law_1245 : decode cL_law 1245 = .ok (.iload 24, 2) := g_dec dt212_L_law_ok (k := 44) rfl
theorem dL_law_1247 : decode cL_law 1247 = .ok (.bipush 64, 2) := g_dec dt212_L_law_ok (k := 45) rfl
theorem dL_law_1249 : decode cL_law 1249 = .ok (.idiv, 1) := g_dec dt212_L_law_ok (k := 46) rfl
theorem dL_law_1250 : decode cL_law 1250 = .ok (.bipush 10, 2) := g_dec dt212_L_law_ok (k := 47) rfl
theorem dL_law_1252 : decode cL_law 1252 = .ok (.irem, 1) := g_dec dt212_L_law_ok (k := 48) rfl
theorem dL_law_1253 : decode cL_law 1253 = .ok (.iload 30, 2) := g_dec dt212_L_law_ok (k := 49) rfl
theorem dL_law_1255 : decode cL_law 1255 = .ok (.iload 24, 2) := g_dec dt212_L_law_ok (k := 50) rfl
theorem dL_law_1257 : decode cL_law 1257 = .ok (.sipush 640, 3) := g_dec dt212_L_law_ok (k := 51) rfl
theorem dL_law_1260 : decode cL_law 1260 = .ok (.idiv, 1) := g_dec dt212_L_law_ok (k := 52) rfl
theorem dL_law_1261 : decode cL_law 1261 = .ok (.bipush 10, 2) := g_dec dt212_L_law_ok (k := 53) rfl
theorem dL_law_1263 : decode cL_law 1263 = .ok (.irem, 1) := g_dec dt212_L_law_ok (k := 54) rfl
theorem dL_law_1264 : decode cL_law 1264 = .ok (.invokevirtual 213, 3) := g_dec dt212_L_law_ok (k := 55) rfl
theorem dL_law_1267 : decode cL_law 1267 = .ok (.aload 13, 2) := g_dec dt212_L_law_ok (k := 56) rfl
theorem dL_law_1269 : decode cL_law 1269 = .ok (.bipush 12, 2) := g_dec dt212_L_law_ok (k := 57) rfl
theorem dL_law_1271 : decode cL_law 1271 = .ok (.iload 28, 2) := g_dec dt212_L_law_ok (k := 58) rfl
theorem dL_law_1273 : decode cL_law 1273 = .ok (.imul, 1) := g_dec dt212_L_law_ok (k := 59) rfl
def dt213_L_law : List (Nat × Instr × Nat) := [(1274, (.iconst 4, 1)), (1275, (.iadd, 1)), (1276, (.iaload, 1)), (1277, (.if_icmp .ne 7, 3)), (1284, (.iconst 0, 1)), (1280, (.iconst 1, 1)), (1281, (.goto 4, 3)), (1161, (.iconst 0, 1)), (1071, (.iload 23, 2)), (1073, (.bipush 13, 2)), (1075, (.if_icmp .ge 227, 3)), (1078, (.aload_n 2, 1)), (1079, (.iconst 2, 1)), (1080, (.iaload, 1)), (1081, (.ifCond .le 221, 3)), (1084, (.iload 24, 2)), (1086, (.aload_n 2, 1)), (1087, (.iconst 2, 1)), (1088, (.iaload, 1)), (1089, (.irem, 1)), (1090, (.istore 28, 2)), (1092, (.iload 24, 2)), (1094, (.iconst 4, 1)), (1095, (.idiv, 1)), (1096, (.iconst 4, 1)), (1097, (.irem, 1)), (1098, (.istore 29, 2)), (1100, (.iload 24, 2)), (1102, (.bipush 16, 2)), (1104, (.idiv, 1)), (1105, (.iconst 4, 1)), (1106, (.irem, 1)), (1107, (.istore 30, 2)), (1109, (.aload 13, 2)), (1111, (.bipush 12, 2)), (1113, (.iload 28, 2)), (1115, (.imul, 1)), (1116, (.iaload, 1)), (1117, (.iload 29, 2)), (1119, (.ishr, 1)), (1120, (.iconst 1, 1)), (1121, (.iand, 1)), (1122, (.iconst 1, 1)), (1123, (.if_icmp .ne 38, 3)), (1126, (.aload 13, 2)), (1128, (.bipush 12, 2)), (1130, (.iload 28, 2)), (1132, (.imul, 1)), (1133, (.iaload, 1)), (1134, (.iload 30, 2)), (1136, (.ishr, 1)), (1137, (.iconst 1, 1)), (1138, (.iand, 1)), (1139, (.iconst 1, 1)), (1140, (.if_icmp .ne 21, 3)), (1143, (.aload 13, 2)), (1145, (.bipush 12, 2)), (1147, (.iload 28, 2)), (1149, (.imul, 1)), (1150, (.iconst 4, 1))]
theorem dt213_L_law_ok : ∀ q ∈ dt213_L_law, decode cL_law q.1 = .ok q.2 := by decide +kernel
theorem dL_law_1274 : decode cL_law 1274 = .ok (.iconst 4, 1) := g_dec dt213_L_law_ok (k := 0) rfl
theorem dL_law_1275 : decode cL_law 1275 = .ok (.iadd, 1) := g_dec dt213_L_law_ok (k := 1) rfl
theorem dL_law_1276 : decode cL_law 1276 = .ok (.iaload, 1) := g_dec dt213_L_law_ok (k := 2) rfl
theorem dL_law_1277 : decode cL_law 1277 = .ok (.if_icmp .ne 7, 3) := g_dec dt213_L_law_ok (k := 3) rfl
theorem dL_law_1284 : decode cL_law 1284 = .ok (.iconst 0, 1) := g_dec dt213_L_law_ok (k := 4) rfl
theorem dL_law_1280 : decode cL_law 1280 = .ok (.iconst 1, 1) := g_dec dt213_L_law_ok (k := 5) rfl
theorem dL_law_1281 : decode cL_law 1281 = .ok (.goto 4, 3) := g_dec dt213_L_law_ok (k := 6) rfl
theorem dL_law_1161 : decode cL_law 1161 = .ok (.iconst 0, 1) := g_dec dt213_L_law_ok (k := 7) rfl
theorem dL_law_1071 : decode cL_law 1071 = .ok (.iload 23, 2) := g_dec dt213_L_law_ok (k := 8) rfl
theorem dL_law_1073 : decode cL_law 1073 = .ok (.bipush 13, 2) := g_dec dt213_L_law_ok (k := 9) rfl
theorem dL_law_1075 : decode cL_law 1075 = .ok (.if_icmp .ge 227, 3) := g_dec dt213_L_law_ok (k := 10) rfl
theorem dL_law_1078 : decode cL_law 1078 = .ok (.aload_n 2, 1) := g_dec dt213_L_law_ok (k := 11) rfl
theorem dL_law_1079 : decode cL_law 1079 = .ok (.iconst 2, 1) := g_dec dt213_L_law_ok (k := 12) rfl
theorem dL_law_1080 : decode cL_law 1080 = .ok (.iaload, 1) := g_dec dt213_L_law_ok (k := 13) rfl
theorem dL_law_1081 : decode cL_law 1081 = .ok (.ifCond .le 221, 3) := g_dec dt213_L_law_ok (k := 14) rfl
theorem dL_law_1084 : decode cL_law 1084 = .ok (.iload 24, 2) := g_dec dt213_L_law_ok (k := 15) rfl
theorem dL_law_1086 : decode cL_law 1086 = .ok (.aload_n 2, 1) := g_dec dt213_L_law_ok (k := 16) rfl
theorem dL_law_1087 : decode cL_law 1087 = .ok (.iconst 2, 1) := g_dec dt213_L_law_ok (k := 17) rfl
theorem dL_law_1088 : decode cL_law 1088 = .ok (.iaload, 1) := g_dec dt213_L_law_ok (k := 18) rfl
theorem dL_law_1089 : decode cL_law 1089 = .ok (.irem, 1) := g_dec dt213_L_law_ok (k := 19) rfl
theorem dL_law_1090 : decode cL_law 1090 = .ok (.istore 28, 2) := g_dec dt213_L_law_ok (k := 20) rfl
theorem dL_law_1092 : decode cL_law 1092 = .ok (.iload 24, 2) := g_dec dt213_L_law_ok (k := 21) rfl
theorem dL_law_1094 : decode cL_law 1094 = .ok (.iconst 4, 1) := g_dec dt213_L_law_ok (k := 22) rfl
theorem dL_law_1095 : decode cL_law 1095 = .ok (.idiv, 1) := g_dec dt213_L_law_ok (k := 23) rfl
theorem dL_law_1096 : decode cL_law 1096 = .ok (.iconst 4, 1) := g_dec dt213_L_law_ok (k := 24) rfl
theorem dL_law_1097 : decode cL_law 1097 = .ok (.irem, 1) := g_dec dt213_L_law_ok (k := 25) rfl
theorem dL_law_1098 : decode cL_law 1098 = .ok (.istore 29, 2) := g_dec dt213_L_law_ok (k := 26) rfl
theorem dL_law_1100 : decode cL_law 1100 = .ok (.iload 24, 2) := g_dec dt213_L_law_ok (k := 27) rfl
theorem dL_law_1102 : decode cL_law 1102 = .ok (.bipush 16, 2) := g_dec dt213_L_law_ok (k := 28) rfl
theorem dL_law_1104 : decode cL_law 1104 = .ok (.idiv, 1) := g_dec dt213_L_law_ok (k := 29) rfl
theorem dL_law_1105 : decode cL_law 1105 = .ok (.iconst 4, 1) := g_dec dt213_L_law_ok (k := 30) rfl
theorem dL_law_1106 : decode cL_law 1106 = .ok (.irem, 1) := g_dec dt213_L_law_ok (k := 31) rfl
theorem dL_law_1107 : decode cL_law 1107 = .ok (.istore 30, 2) := g_dec dt213_L_law_ok (k := 32) rfl
theorem dL_law_1109 : decode cL_law 1109 = .ok (.aload 13, 2) := g_dec dt213_L_law_ok (k := 33) rfl
theorem dL_law_1111 : decode cL_law 1111 = .ok (.bipush 12, 2) := g_dec dt213_L_law_ok (k := 34) rfl
theorem dL_law_1113 : decode cL_law 1113 = .ok (.iload 28, 2) := g_dec dt213_L_law_ok (k := 35) rfl
theorem dL_law_1115 : decode cL_law 1115 = .ok (.imul, 1) := g_dec dt213_L_law_ok (k := 36) rfl
theorem dL_law_1116 : decode cL_law 1116 = .ok (.iaload, 1) := g_dec dt213_L_law_ok (k := 37) rfl
theorem dL_law_1117 : decode cL_law 1117 = .ok (.iload 29, 2) := g_dec dt213_L_law_ok (k := 38) rfl
theorem dL_law_1119 : decode cL_law 1119 = .ok (.ishr, 1) := g_dec dt213_L_law_ok (k := 39) rfl
theorem dL_law_1120 : decode cL_law 1120 = .ok (.iconst 1, 1) := g_dec dt213_L_law_ok (k := 40) rfl
theorem dL_law_1121 : decode cL_law 1121 = .ok (.iand, 1) := g_dec dt213_L_law_ok (k := 41) rfl
theorem dL_law_1122 : decode cL_law 1122 = .ok (.iconst 1, 1) := g_dec dt213_L_law_ok (k := 42) rfl
theorem dL_law_1123 : decode cL_law 1123 = .ok (.if_icmp .ne 38, 3) := g_dec dt213_L_law_ok (k := 43) rfl
theorem dL_law_1126 : decode cL_law 1126 = .ok (.aload 13, 2) := g_dec dt213_L_law_ok (k := 44) rfl
theorem dL_law_1128 : decode cL_law 1128 = .ok (.bipush 12, 2) := g_dec dt213_L_law_ok (k := 45) rfl
theorem dL_law_1130 : decode cL_law 1130 = .ok (.iload 28, 2) := g_dec dt213_L_law_ok (k := 46) rfl
theorem dL_law_1132 : decode cL_law 1132 = .ok (.imul, 1) := g_dec dt213_L_law_ok (k := 47) rfl
theorem dL_law_1133 : decode cL_law 1133 = .ok (.iaload, 1) := g_dec dt213_L_law_ok (k := 48) rfl
theorem dL_law_1134 : decode cL_law 1134 = .ok (.iload 30, 2) := g_dec dt213_L_law_ok (k := 49) rfl
theorem dL_law_1136 : decode cL_law 1136 = .ok (.ishr, 1) := g_dec dt213_L_law_ok (k := 50) rfl
theorem dL_law_1137 : decode cL_law 1137 = .ok (.iconst 1, 1) := g_dec dt213_L_law_ok (k := 51) rfl
theorem dL_law_1138 : decode cL_law 1138 = .ok (.iand, 1) := g_dec dt213_L_law_ok (k := 52) rfl
theorem dL_law_1139 : decode cL_law 1139 = .ok (.iconst 1, 1) := g_dec dt213_L_law_ok (k := 53) rfl
theorem dL_law_1140 : decode cL_law 1140 = .ok (.if_icmp .ne 21, 3) := g_dec dt213_L_law_ok (k := 54) rfl
theorem dL_law_1143 : decode cL_law 1143 = .ok (.aload 13, 2) := g_dec dt213_L_law_ok (k := 55) rfl
theorem dL_law_1145 : decode cL_law 1145 = .ok (.bipush 12, 2) := g_dec dt213_L_law_ok (k := 56) rfl
theorem dL_law_1147 : decode cL_law 1147 = .ok (.iload 28, 2) := g_dec dt213_L_law_ok (k := 57) rfl
theorem dL_law_1149 : decode cL_law 1149 = .ok (.imul, 1) := g_dec dt213_L_law_ok (k := 58) rfl
theorem dL_law_1150 : decode cL_law 1150 = .ok (.iconst 4, 1) := g_dec dt213_L_law_ok (k := 59) rfl
def dt214_L_law : List (Nat × Instr × Nat) := [(1151, (.iadd, 1)), (1152, (.iaload, 1)), (1153, (.iconst 5, 1)), (1154, (.if_icmp .ge 7, 3)), (1157, (.iconst 1, 1)), (1158, (.goto 4, 3)), (1022, (.istore 20, 2)), (1024, (.aload 13, 2)), (1026, (.bipush 12, 2)), (1028, (.aload_n 2, 1)), (1029, (.iconst 2, 1)), (1030, (.iaload, 1)), (1031, (.imul, 1)), (1032, (.iload 28, 2)), (1034, (.iastore, 1)), (1035, (.aload 13, 2)), (1037, (.bipush 12, 2)), (1039, (.aload_n 2, 1)), (1040, (.iconst 2, 1)), (1041, (.iaload, 1)), (1042, (.imul, 1)), (1043, (.iconst 1, 1)), (1044, (.iadd, 1)), (1045, (.iload 29, 2)), (1047, (.iastore, 1)), (1048, (.aload 13, 2)), (1050, (.bipush 12, 2)), (1052, (.aload_n 2, 1)), (1053, (.iconst 2, 1)), (1054, (.iaload, 1)), (1055, (.imul, 1)), (1056, (.iconst 2, 1)), (1057, (.iadd, 1)), (1058, (.iload 30, 2)), (1060, (.iastore, 1)), (1061, (.aload_n 2, 1)), (1062, (.iconst 2, 1)), (1063, (.dup2, 1)), (1064, (.iaload, 1)), (1065, (.iconst 1, 1)), (1066, (.iadd, 1)), (1067, (.iastore, 1)), (1068, (.goto 1630, 3)), (999, (.istore 30, 2)), (1001, (.aload_n 1, 1)), (1002, (.iload 28, 2)), (1004, (.iload 29, 2)), (1006, (.iload 30, 2)), (1008, (.invokevirtual 209, 3)), (1011, (.aload_n 2, 1)), (1012, (.iconst 2, 1)), (1013, (.iaload, 1)), (1014, (.if_icmp .ne 7, 3)), (1021, (.iconst 0, 1)), (1017, (.iconst 1, 1)), (1018, (.goto 4, 3)), (942, (.iload 23, 2)), (944, (.bipush 11, 2)), (946, (.if_icmp .ge 125, 3)), (949, (.aload_n 2, 1))]
theorem dt214_L_law_ok : ∀ q ∈ dt214_L_law, decode cL_law q.1 = .ok q.2 := by decide +kernel
theorem dL_law_1151 : decode cL_law 1151 = .ok (.iadd, 1) := g_dec dt214_L_law_ok (k := 0) rfl
theorem dL_law_1152 : decode cL_law 1152 = .ok (.iaload, 1) := g_dec dt214_L_law_ok (k := 1) rfl
theorem dL_law_1153 : decode cL_law 1153 = .ok (.iconst 5, 1) := g_dec dt214_L_law_ok (k := 2) rfl
theorem dL_law_1154 : decode cL_law 1154 = .ok (.if_icmp .ge 7, 3) := g_dec dt214_L_law_ok (k := 3) rfl
theorem dL_law_1157 : decode cL_law 1157 = .ok (.iconst 1, 1) := g_dec dt214_L_law_ok (k := 4) rfl
theorem dL_law_1158 : decode cL_law 1158 = .ok (.goto 4, 3) := g_dec dt214_L_law_ok (k := 5) rfl
theorem dL_law_1022 : decode cL_law 1022 = .ok (.istore 20, 2) := g_dec dt214_L_law_ok (k := 6) rfl
theorem dL_law_1024 : decode cL_law 1024 = .ok (.aload 13, 2) := g_dec dt214_L_law_ok (k := 7) rfl
theorem dL_law_1026 : decode cL_law 1026 = .ok (.bipush 12, 2) := g_dec dt214_L_law_ok (k := 8) rfl
theorem dL_law_1028 : decode cL_law 1028 = .ok (.aload_n 2, 1) := g_dec dt214_L_law_ok (k := 9) rfl
theorem dL_law_1029 : decode cL_law 1029 = .ok (.iconst 2, 1) := g_dec dt214_L_law_ok (k := 10) rfl
theorem dL_law_1030 : decode cL_law 1030 = .ok (.iaload, 1) := g_dec dt214_L_law_ok (k := 11) rfl
theorem dL_law_1031 : decode cL_law 1031 = .ok (.imul, 1) := g_dec dt214_L_law_ok (k := 12) rfl
theorem dL_law_1032 : decode cL_law 1032 = .ok (.iload 28, 2) := g_dec dt214_L_law_ok (k := 13) rfl
theorem dL_law_1034 : decode cL_law 1034 = .ok (.iastore, 1) := g_dec dt214_L_law_ok (k := 14) rfl
theorem dL_law_1035 : decode cL_law 1035 = .ok (.aload 13, 2) := g_dec dt214_L_law_ok (k := 15) rfl
theorem dL_law_1037 : decode cL_law 1037 = .ok (.bipush 12, 2) := g_dec dt214_L_law_ok (k := 16) rfl
theorem dL_law_1039 : decode cL_law 1039 = .ok (.aload_n 2, 1) := g_dec dt214_L_law_ok (k := 17) rfl
theorem dL_law_1040 : decode cL_law 1040 = .ok (.iconst 2, 1) := g_dec dt214_L_law_ok (k := 18) rfl
theorem dL_law_1041 : decode cL_law 1041 = .ok (.iaload, 1) := g_dec dt214_L_law_ok (k := 19) rfl
theorem dL_law_1042 : decode cL_law 1042 = .ok (.imul, 1) := g_dec dt214_L_law_ok (k := 20) rfl
theorem dL_law_1043 : decode cL_law 1043 = .ok (.iconst 1, 1) := g_dec dt214_L_law_ok (k := 21) rfl
theorem dL_law_1044 : decode cL_law 1044 = .ok (.iadd, 1) := g_dec dt214_L_law_ok (k := 22) rfl
theorem dL_law_1045 : decode cL_law 1045 = .ok (.iload 29, 2) := g_dec dt214_L_law_ok (k := 23) rfl
theorem dL_law_1047 : decode cL_law 1047 = .ok (.iastore, 1) := g_dec dt214_L_law_ok (k := 24) rfl
theorem dL_law_1048 : decode cL_law 1048 = .ok (.aload 13, 2) := g_dec dt214_L_law_ok (k := 25) rfl
theorem dL_law_1050 : decode cL_law 1050 = .ok (.bipush 12, 2) := g_dec dt214_L_law_ok (k := 26) rfl
theorem dL_law_1052 : decode cL_law 1052 = .ok (.aload_n 2, 1) := g_dec dt214_L_law_ok (k := 27) rfl
theorem dL_law_1053 : decode cL_law 1053 = .ok (.iconst 2, 1) := g_dec dt214_L_law_ok (k := 28) rfl
theorem dL_law_1054 : decode cL_law 1054 = .ok (.iaload, 1) := g_dec dt214_L_law_ok (k := 29) rfl
theorem dL_law_1055 : decode cL_law 1055 = .ok (.imul, 1) := g_dec dt214_L_law_ok (k := 30) rfl
theorem dL_law_1056 : decode cL_law 1056 = .ok (.iconst 2, 1) := g_dec dt214_L_law_ok (k := 31) rfl
theorem dL_law_1057 : decode cL_law 1057 = .ok (.iadd, 1) := g_dec dt214_L_law_ok (k := 32) rfl
theorem dL_law_1058 : decode cL_law 1058 = .ok (.iload 30, 2) := g_dec dt214_L_law_ok (k := 33) rfl
theorem dL_law_1060 : decode cL_law 1060 = .ok (.iastore, 1) := g_dec dt214_L_law_ok (k := 34) rfl
theorem dL_law_1061 : decode cL_law 1061 = .ok (.aload_n 2, 1) := g_dec dt214_L_law_ok (k := 35) rfl
theorem dL_law_1062 : decode cL_law 1062 = .ok (.iconst 2, 1) := g_dec dt214_L_law_ok (k := 36) rfl
theorem dL_law_1063 : decode cL_law 1063 = .ok (.dup2, 1) := g_dec dt214_L_law_ok (k := 37) rfl
theorem dL_law_1064 : decode cL_law 1064 = .ok (.iaload, 1) := g_dec dt214_L_law_ok (k := 38) rfl
theorem dL_law_1065 : decode cL_law 1065 = .ok (.iconst 1, 1) := g_dec dt214_L_law_ok (k := 39) rfl
theorem dL_law_1066 : decode cL_law 1066 = .ok (.iadd, 1) := g_dec dt214_L_law_ok (k := 40) rfl
theorem dL_law_1067 : decode cL_law 1067 = .ok (.iastore, 1) := g_dec dt214_L_law_ok (k := 41) rfl
theorem dL_law_1068 : decode cL_law 1068 = .ok (.goto 1630, 3) := g_dec dt214_L_law_ok (k := 42) rfl
theorem dL_law_999 : decode cL_law 999 = .ok (.istore 30, 2) := g_dec dt214_L_law_ok (k := 43) rfl
theorem dL_law_1001 : decode cL_law 1001 = .ok (.aload_n 1, 1) := g_dec dt214_L_law_ok (k := 44) rfl
theorem dL_law_1002 : decode cL_law 1002 = .ok (.iload 28, 2) := g_dec dt214_L_law_ok (k := 45) rfl
theorem dL_law_1004 : decode cL_law 1004 = .ok (.iload 29, 2) := g_dec dt214_L_law_ok (k := 46) rfl
theorem dL_law_1006 : decode cL_law 1006 = .ok (.iload 30, 2) := g_dec dt214_L_law_ok (k := 47) rfl
theorem dL_law_1008 : decode cL_law 1008 = .ok (.invokevirtual 209, 3) := g_dec dt214_L_law_ok (k := 48) rfl
theorem dL_law_1011 : decode cL_law 1011 = .ok (.aload_n 2, 1) := g_dec dt214_L_law_ok (k := 49) rfl
theorem dL_law_1012 : decode cL_law 1012 = .ok (.iconst 2, 1) := g_dec dt214_L_law_ok (k := 50) rfl
theorem dL_law_1013 : decode cL_law 1013 = .ok (.iaload, 1) := g_dec dt214_L_law_ok (k := 51) rfl
theorem dL_law_1014 : decode cL_law 1014 = .ok (.if_icmp .ne 7, 3) := g_dec dt214_L_law_ok (k := 52) rfl
theorem dL_law_1021 : decode cL_law 1021 = .ok (.iconst 0, 1) := g_dec dt214_L_law_ok (k := 53) rfl
theorem dL_law_1017 : decode cL_law 1017 = .ok (.iconst 1, 1) := g_dec dt214_L_law_ok (k := 54) rfl
theorem dL_law_1018 : decode cL_law 1018 = .ok (.goto 4, 3) := g_dec dt214_L_law_ok (k := 55) rfl
theorem dL_law_942 : decode cL_law 942 = .ok (.iload 23, 2) := g_dec dt214_L_law_ok (k := 56) rfl
theorem dL_law_944 : decode cL_law 944 = .ok (.bipush 11, 2) := g_dec dt214_L_law_ok (k := 57) rfl
theorem dL_law_946 : decode cL_law 946 = .ok (.if_icmp .ge 125, 3) := g_dec dt214_L_law_ok (k := 58) rfl
theorem dL_law_949 : decode cL_law 949 = .ok (.aload_n 2, 1) := g_dec dt214_L_law_ok (k := 59) rfl
def dt215_L_law : List (Nat × Instr × Nat) := [(950, (.iconst 2, 1)), (951, (.iaload, 1)), (952, (.iconst 4, 1)), (953, (.if_icmp .ge 118, 3)), (956, (.iload 24, 2)), (958, (.bipush 15, 2)), (960, (.irem, 1)), (961, (.iconst 1, 1)), (962, (.iadd, 1)), (963, (.istore 28, 2)), (965, (.iconst 1, 1)), (966, (.iload 24, 2)), (968, (.bipush 15, 2)), (970, (.idiv, 1)), (971, (.iconst 3, 1)), (972, (.irem, 1)), (973, (.iadd, 1)), (974, (.istore 29, 2)), (976, (.iload 24, 2)), (978, (.bipush 45, 2)), (980, (.idiv, 1)), (981, (.iconst 3, 1)), (982, (.irem, 1)), (983, (.ifCond .ne 15, 3)), (998, (.iconst 0, 1)), (986, (.iload 24, 2)), (988, (.sipush 135, 3)), (991, (.idiv, 1)), (992, (.bipush 10, 2)), (994, (.irem, 1)), (995, (.goto 4, 3)), (939, (.goto 1759, 3)), (897, (.istore 20, 2)), (899, (.iload 28, 2)), (901, (.ifCond .eq 38, 3)), (904, (.aload 5, 2)), (906, (.iload 27, 2)), (908, (.iconst 1, 1)), (909, (.iastore, 1)), (910, (.aload 6, 2)), (912, (.iload 27, 2)), (914, (.iload 24, 2)), (916, (.bipush 7, 2)), (918, (.idiv, 1)), (919, (.iconst 4, 1)), (920, (.irem, 1)), (921, (.iastore, 1)), (922, (.aload 7, 2)), (924, (.iload 27, 2)), (926, (.aload_n 2, 1)), (927, (.bipush 7, 2)), (929, (.iaload, 1)), (930, (.iastore, 1)), (931, (.aload_n 2, 1)), (932, (.bipush 7, 2)), (934, (.dup2, 1)), (935, (.iaload, 1)), (936, (.iconst 1, 1)), (937, (.iadd, 1)), (938, (.iastore, 1))]
theorem dt215_L_law_ok : ∀ q ∈ dt215_L_law, decode cL_law q.1 = .ok q.2 := by decide +kernel
theorem dL_law_950 : decode cL_law 950 = .ok (.iconst 2, 1) := g_dec dt215_L_law_ok (k := 0) rfl
theorem dL_law_951 : decode cL_law 951 = .ok (.iaload, 1) := g_dec dt215_L_law_ok (k := 1) rfl
theorem dL_law_952 : decode cL_law 952 = .ok (.iconst 4, 1) := g_dec dt215_L_law_ok (k := 2) rfl
theorem dL_law_953 : decode cL_law 953 = .ok (.if_icmp .ge 118, 3) := g_dec dt215_L_law_ok (k := 3) rfl
theorem dL_law_956 : decode cL_law 956 = .ok (.iload 24, 2) := g_dec dt215_L_law_ok (k := 4) rfl
theorem dL_law_958 : decode cL_law 958 = .ok (.bipush 15, 2) := g_dec dt215_L_law_ok (k := 5) rfl
theorem dL_law_960 : decode cL_law 960 = .ok (.irem, 1) := g_dec dt215_L_law_ok (k := 6) rfl
theorem dL_law_961 : decode cL_law 961 = .ok (.iconst 1, 1) := g_dec dt215_L_law_ok (k := 7) rfl
theorem dL_law_962 : decode cL_law 962 = .ok (.iadd, 1) := g_dec dt215_L_law_ok (k := 8) rfl
theorem dL_law_963 : decode cL_law 963 = .ok (.istore 28, 2) := g_dec dt215_L_law_ok (k := 9) rfl
theorem dL_law_965 : decode cL_law 965 = .ok (.iconst 1, 1) := g_dec dt215_L_law_ok (k := 10) rfl
theorem dL_law_966 : decode cL_law 966 = .ok (.iload 24, 2) := g_dec dt215_L_law_ok (k := 11) rfl
theorem dL_law_968 : decode cL_law 968 = .ok (.bipush 15, 2) := g_dec dt215_L_law_ok (k := 12) rfl
theorem dL_law_970 : decode cL_law 970 = .ok (.idiv, 1) := g_dec dt215_L_law_ok (k := 13) rfl
theorem dL_law_971 : decode cL_law 971 = .ok (.iconst 3, 1) := g_dec dt215_L_law_ok (k := 14) rfl
theorem dL_law_972 : decode cL_law 972 = .ok (.irem, 1) := g_dec dt215_L_law_ok (k := 15) rfl
theorem dL_law_973 : decode cL_law 973 = .ok (.iadd, 1) := g_dec dt215_L_law_ok (k := 16) rfl
theorem dL_law_974 : decode cL_law 974 = .ok (.istore 29, 2) := g_dec dt215_L_law_ok (k := 17) rfl
theorem dL_law_976 : decode cL_law 976 = .ok (.iload 24, 2) := g_dec dt215_L_law_ok (k := 18) rfl
theorem dL_law_978 : decode cL_law 978 = .ok (.bipush 45, 2) := g_dec dt215_L_law_ok (k := 19) rfl
theorem dL_law_980 : decode cL_law 980 = .ok (.idiv, 1) := g_dec dt215_L_law_ok (k := 20) rfl
theorem dL_law_981 : decode cL_law 981 = .ok (.iconst 3, 1) := g_dec dt215_L_law_ok (k := 21) rfl
theorem dL_law_982 : decode cL_law 982 = .ok (.irem, 1) := g_dec dt215_L_law_ok (k := 22) rfl
theorem dL_law_983 : decode cL_law 983 = .ok (.ifCond .ne 15, 3) := g_dec dt215_L_law_ok (k := 23) rfl
theorem dL_law_998 : decode cL_law 998 = .ok (.iconst 0, 1) := g_dec dt215_L_law_ok (k := 24) rfl
theorem dL_law_986 : decode cL_law 986 = .ok (.iload 24, 2) := g_dec dt215_L_law_ok (k := 25) rfl
theorem dL_law_988 : decode cL_law 988 = .ok (.sipush 135, 3) := g_dec dt215_L_law_ok (k := 26) rfl
theorem dL_law_991 : decode cL_law 991 = .ok (.idiv, 1) := g_dec dt215_L_law_ok (k := 27) rfl
theorem dL_law_992 : decode cL_law 992 = .ok (.bipush 10, 2) := g_dec dt215_L_law_ok (k := 28) rfl
theorem dL_law_994 : decode cL_law 994 = .ok (.irem, 1) := g_dec dt215_L_law_ok (k := 29) rfl
theorem dL_law_995 : decode cL_law 995 = .ok (.goto 4, 3) := g_dec dt215_L_law_ok (k := 30) rfl
theorem dL_law_939 : decode cL_law 939 = .ok (.goto 1759, 3) := g_dec dt215_L_law_ok (k := 31) rfl
theorem dL_law_897 : decode cL_law 897 = .ok (.istore 20, 2) := g_dec dt215_L_law_ok (k := 32) rfl
theorem dL_law_899 : decode cL_law 899 = .ok (.iload 28, 2) := g_dec dt215_L_law_ok (k := 33) rfl
theorem dL_law_901 : decode cL_law 901 = .ok (.ifCond .eq 38, 3) := g_dec dt215_L_law_ok (k := 34) rfl
theorem dL_law_904 : decode cL_law 904 = .ok (.aload 5, 2) := g_dec dt215_L_law_ok (k := 35) rfl
theorem dL_law_906 : decode cL_law 906 = .ok (.iload 27, 2) := g_dec dt215_L_law_ok (k := 36) rfl
theorem dL_law_908 : decode cL_law 908 = .ok (.iconst 1, 1) := g_dec dt215_L_law_ok (k := 37) rfl
theorem dL_law_909 : decode cL_law 909 = .ok (.iastore, 1) := g_dec dt215_L_law_ok (k := 38) rfl
theorem dL_law_910 : decode cL_law 910 = .ok (.aload 6, 2) := g_dec dt215_L_law_ok (k := 39) rfl
theorem dL_law_912 : decode cL_law 912 = .ok (.iload 27, 2) := g_dec dt215_L_law_ok (k := 40) rfl
theorem dL_law_914 : decode cL_law 914 = .ok (.iload 24, 2) := g_dec dt215_L_law_ok (k := 41) rfl
theorem dL_law_916 : decode cL_law 916 = .ok (.bipush 7, 2) := g_dec dt215_L_law_ok (k := 42) rfl
theorem dL_law_918 : decode cL_law 918 = .ok (.idiv, 1) := g_dec dt215_L_law_ok (k := 43) rfl
theorem dL_law_919 : decode cL_law 919 = .ok (.iconst 4, 1) := g_dec dt215_L_law_ok (k := 44) rfl
theorem dL_law_920 : decode cL_law 920 = .ok (.irem, 1) := g_dec dt215_L_law_ok (k := 45) rfl
theorem dL_law_921 : decode cL_law 921 = .ok (.iastore, 1) := g_dec dt215_L_law_ok (k := 46) rfl
theorem dL_law_922 : decode cL_law 922 = .ok (.aload 7, 2) := g_dec dt215_L_law_ok (k := 47) rfl
theorem dL_law_924 : decode cL_law 924 = .ok (.iload 27, 2) := g_dec dt215_L_law_ok (k := 48) rfl
theorem dL_law_926 : decode cL_law 926 = .ok (.aload_n 2, 1) := g_dec dt215_L_law_ok (k := 49) rfl
theorem dL_law_927 : decode cL_law 927 = .ok (.bipush 7, 2) := g_dec dt215_L_law_ok (k := 50) rfl
theorem dL_law_929 : decode cL_law 929 = .ok (.iaload, 1) := g_dec dt215_L_law_ok (k := 51) rfl
theorem dL_law_930 : decode cL_law 930 = .ok (.iastore, 1) := g_dec dt215_L_law_ok (k := 52) rfl
theorem dL_law_931 : decode cL_law 931 = .ok (.aload_n 2, 1) := g_dec dt215_L_law_ok (k := 53) rfl
theorem dL_law_932 : decode cL_law 932 = .ok (.bipush 7, 2) := g_dec dt215_L_law_ok (k := 54) rfl
theorem dL_law_934 : decode cL_law 934 = .ok (.dup2, 1) := g_dec dt215_L_law_ok (k := 55) rfl
theorem dL_law_935 : decode cL_law 935 = .ok (.iaload, 1) := g_dec dt215_L_law_ok (k := 56) rfl
theorem dL_law_936 : decode cL_law 936 = .ok (.iconst 1, 1) := g_dec dt215_L_law_ok (k := 57) rfl
theorem dL_law_937 : decode cL_law 937 = .ok (.iadd, 1) := g_dec dt215_L_law_ok (k := 58) rfl
theorem dL_law_938 : decode cL_law 938 = .ok (.iastore, 1) := g_dec dt215_L_law_ok (k := 59) rfl
def dt216_L_law : List (Nat × Instr × Nat) := [(887, (.iload 28, 2)), (889, (.if_icmp .ne 7, 3)), (896, (.iconst 0, 1)), (892, (.iconst 1, 1)), (893, (.goto 4, 3)), (862, (.istore 28, 2)), (864, (.aload_n 1, 1)), (865, (.iconst 4, 1)), (866, (.iload 27, 2)), (868, (.iload 24, 2)), (870, (.bipush 7, 2)), (872, (.idiv, 1)), (873, (.iconst 4, 1)), (874, (.irem, 1)), (875, (.iconst 0, 1)), (876, (.invokestatic 161, 3)), (879, (.ifCond .lt 7, 3)), (886, (.iconst 0, 1)), (882, (.iconst 1, 1)), (883, (.goto 4, 3)), (861, (.iconst 0, 1)), (857, (.iconst 1, 1)), (858, (.goto 4, 3)), (804, (.iload 23, 2)), (806, (.bipush 8, 2)), (808, (.if_icmp .ne 134, 3)), (811, (.aload_n 2, 1)), (812, (.iconst 0, 1)), (813, (.iaload, 1)), (814, (.ifCond .le 128, 3)), (817, (.aload 5, 2)), (819, (.iload 27, 2)), (821, (.iaload, 1)), (822, (.ifCond .ne 39, 3)), (825, (.aload 4, 2)), (827, (.iload 27, 2)), (829, (.iaload, 1)), (830, (.ifCond .lt 27, 3)), (833, (.aload 5, 2)), (835, (.aload 4, 2)), (837, (.iload 27, 2)), (839, (.iaload, 1)), (840, (.iaload, 1)), (841, (.iconst 1, 1)), (842, (.if_icmp .eq 15, 3)), (845, (.aload 5, 2)), (847, (.aload 4, 2)), (849, (.iload 27, 2)), (851, (.iaload, 1)), (852, (.iaload, 1)), (853, (.iconst 2, 1)), (854, (.if_icmp .ne 7, 3)), (801, (.goto 1897, 3)), (799, (.istore 20, 2)), (750, (.isub, 1)), (751, (.iastore, 1)), (752, (.aload 7, 2)), (754, (.aload_n 2, 1)), (755, (.iconst 0, 1)), (756, (.iaload, 1))]
theorem dt216_L_law_ok : ∀ q ∈ dt216_L_law, decode cL_law q.1 = .ok q.2 := by decide +kernel
theorem dL_law_887 : decode cL_law 887 = .ok (.iload 28, 2) := g_dec dt216_L_law_ok (k := 0) rfl
theorem dL_law_889 : decode cL_law 889 = .ok (.if_icmp .ne 7, 3) := g_dec dt216_L_law_ok (k := 1) rfl
theorem dL_law_896 : decode cL_law 896 = .ok (.iconst 0, 1) := g_dec dt216_L_law_ok (k := 2) rfl
theorem dL_law_892 : decode cL_law 892 = .ok (.iconst 1, 1) := g_dec dt216_L_law_ok (k := 3) rfl
theorem dL_law_893 : decode cL_law 893 = .ok (.goto 4, 3) := g_dec dt216_L_law_ok (k := 4) rfl
theorem dL_law_862 : decode cL_law 862 = .ok (.istore 28, 2) := g_dec dt216_L_law_ok (k := 5) rfl
theorem dL_law_864 : decode cL_law 864 = .ok (.aload_n 1, 1) := g_dec dt216_L_law_ok (k := 6) rfl
theorem dL_law_865 : decode cL_law 865 = .ok (.iconst 4, 1) := g_dec dt216_L_law_ok (k := 7) rfl
theorem dL_law_866 : decode cL_law 866 = .ok (.iload 27, 2) := g_dec dt216_L_law_ok (k := 8) rfl
theorem dL_law_868 : decode cL_law 868 = .ok (.iload 24, 2) := g_dec dt216_L_law_ok (k := 9) rfl
theorem dL_law_870 : decode cL_law 870 = .ok (.bipush 7, 2) := g_dec dt216_L_law_ok (k := 10) rfl
theorem dL_law_872 : decode cL_law 872 = .ok (.idiv, 1) := g_dec dt216_L_law_ok (k := 11) rfl
theorem dL_law_873 : decode cL_law 873 = .ok (.iconst 4, 1) := g_dec dt216_L_law_ok (k := 12) rfl
theorem dL_law_874 : decode cL_law 874 = .ok (.irem, 1) := g_dec dt216_L_law_ok (k := 13) rfl
theorem dL_law_875 : decode cL_law 875 = .ok (.iconst 0, 1) := g_dec dt216_L_law_ok (k := 14) rfl
theorem dL_law_876 : decode cL_law 876 = .ok (.invokestatic 161, 3) := g_dec dt216_L_law_ok (k := 15) rfl
theorem dL_law_879 : decode cL_law 879 = .ok (.ifCond .lt 7, 3) := g_dec dt216_L_law_ok (k := 16) rfl
theorem dL_law_886 : decode cL_law 886 = .ok (.iconst 0, 1) := g_dec dt216_L_law_ok (k := 17) rfl
theorem dL_law_882 : decode cL_law 882 = .ok (.iconst 1, 1) := g_dec dt216_L_law_ok (k := 18) rfl
theorem dL_law_883 : decode cL_law 883 = .ok (.goto 4, 3) := g_dec dt216_L_law_ok (k := 19) rfl
theorem dL_law_861 : decode cL_law 861 = .ok (.iconst 0, 1) := g_dec dt216_L_law_ok (k := 20) rfl
theorem dL_law_857 : decode cL_law 857 = .ok (.iconst 1, 1) := g_dec dt216_L_law_ok (k := 21) rfl
theorem dL_law_858 : decode cL_law 858 = .ok (.goto 4, 3) := g_dec dt216_L_law_ok (k := 22) rfl
theorem dL_law_804 : decode cL_law 804 = .ok (.iload 23, 2) := g_dec dt216_L_law_ok (k := 23) rfl
theorem dL_law_806 : decode cL_law 806 = .ok (.bipush 8, 2) := g_dec dt216_L_law_ok (k := 24) rfl
theorem dL_law_808 : decode cL_law 808 = .ok (.if_icmp .ne 134, 3) := g_dec dt216_L_law_ok (k := 25) rfl
theorem dL_law_811 : decode cL_law 811 = .ok (.aload_n 2, 1) := g_dec dt216_L_law_ok (k := 26) rfl
theorem dL_law_812 : decode cL_law 812 = .ok (.iconst 0, 1) := g_dec dt216_L_law_ok (k := 27) rfl
theorem dL_law_813 : decode cL_law 813 = .ok (.iaload, 1) := g_dec dt216_L_law_ok (k := 28) rfl
theorem dL_law_814 : decode cL_law 814 = .ok (.ifCond .le 128, 3) := g_dec dt216_L_law_ok (k := 29) rfl
theorem dL_law_817 : decode cL_law 817 = .ok (.aload 5, 2) := g_dec dt216_L_law_ok (k := 30) rfl
theorem dL_law_819 : decode cL_law 819 = .ok (.iload 27, 2) := g_dec dt216_L_law_ok (k := 31) rfl
theorem dL_law_821 : decode cL_law 821 = .ok (.iaload, 1) := g_dec dt216_L_law_ok (k := 32) rfl
theorem dL_law_822 : decode cL_law 822 = .ok (.ifCond .ne 39, 3) := g_dec dt216_L_law_ok (k := 33) rfl
theorem dL_law_825 : decode cL_law 825 = .ok (.aload 4, 2) := g_dec dt216_L_law_ok (k := 34) rfl
theorem dL_law_827 : decode cL_law 827 = .ok (.iload 27, 2) := g_dec dt216_L_law_ok (k := 35) rfl
theorem dL_law_829 : decode cL_law 829 = .ok (.iaload, 1) := g_dec dt216_L_law_ok (k := 36) rfl
theorem dL_law_830 : decode cL_law 830 = .ok (.ifCond .lt 27, 3) := g_dec dt216_L_law_ok (k := 37) rfl
theorem dL_law_833 : decode cL_law 833 = .ok (.aload 5, 2) := g_dec dt216_L_law_ok (k := 38) rfl
theorem dL_law_835 : decode cL_law 835 = .ok (.aload 4, 2) := g_dec dt216_L_law_ok (k := 39) rfl
theorem dL_law_837 : decode cL_law 837 = .ok (.iload 27, 2) := g_dec dt216_L_law_ok (k := 40) rfl
theorem dL_law_839 : decode cL_law 839 = .ok (.iaload, 1) := g_dec dt216_L_law_ok (k := 41) rfl
theorem dL_law_840 : decode cL_law 840 = .ok (.iaload, 1) := g_dec dt216_L_law_ok (k := 42) rfl
theorem dL_law_841 : decode cL_law 841 = .ok (.iconst 1, 1) := g_dec dt216_L_law_ok (k := 43) rfl
theorem dL_law_842 : decode cL_law 842 = .ok (.if_icmp .eq 15, 3) := g_dec dt216_L_law_ok (k := 44) rfl
theorem dL_law_845 : decode cL_law 845 = .ok (.aload 5, 2) := g_dec dt216_L_law_ok (k := 45) rfl
theorem dL_law_847 : decode cL_law 847 = .ok (.aload 4, 2) := g_dec dt216_L_law_ok (k := 46) rfl
theorem dL_law_849 : decode cL_law 849 = .ok (.iload 27, 2) := g_dec dt216_L_law_ok (k := 47) rfl
theorem dL_law_851 : decode cL_law 851 = .ok (.iaload, 1) := g_dec dt216_L_law_ok (k := 48) rfl
theorem dL_law_852 : decode cL_law 852 = .ok (.iaload, 1) := g_dec dt216_L_law_ok (k := 49) rfl
theorem dL_law_853 : decode cL_law 853 = .ok (.iconst 2, 1) := g_dec dt216_L_law_ok (k := 50) rfl
theorem dL_law_854 : decode cL_law 854 = .ok (.if_icmp .ne 7, 3) := g_dec dt216_L_law_ok (k := 51) rfl
theorem dL_law_801 : decode cL_law 801 = .ok (.goto 1897, 3) := g_dec dt216_L_law_ok (k := 52) rfl
theorem dL_law_799 : decode cL_law 799 = .ok (.istore 20, 2) := g_dec dt216_L_law_ok (k := 53) rfl
theorem dL_law_750 : decode cL_law 750 = .ok (.isub, 1) := g_dec dt216_L_law_ok (k := 54) rfl
theorem dL_law_751 : decode cL_law 751 = .ok (.iastore, 1) := g_dec dt216_L_law_ok (k := 55) rfl
theorem dL_law_752 : decode cL_law 752 = .ok (.aload 7, 2) := g_dec dt216_L_law_ok (k := 56) rfl
theorem dL_law_754 : decode cL_law 754 = .ok (.aload_n 2, 1) := g_dec dt216_L_law_ok (k := 57) rfl
theorem dL_law_755 : decode cL_law 755 = .ok (.iconst 0, 1) := g_dec dt216_L_law_ok (k := 58) rfl
theorem dL_law_756 : decode cL_law 756 = .ok (.iaload, 1) := g_dec dt216_L_law_ok (k := 59) rfl
def dt217_L_law : List (Nat × Instr × Nat) := [(757, (.iconst 1, 1)), (758, (.isub, 1)), (759, (.aload_n 2, 1)), (760, (.bipush 7, 2)), (762, (.iaload, 1)), (763, (.iastore, 1)), (764, (.aload_n 2, 1)), (765, (.bipush 7, 2)), (767, (.dup2, 1)), (768, (.iaload, 1)), (769, (.iconst 1, 1)), (770, (.iadd, 1)), (771, (.iastore, 1)), (772, (.aload_n 1, 1)), (773, (.iconst 4, 1)), (774, (.aload_n 2, 1)), (775, (.iconst 0, 1)), (776, (.iaload, 1)), (777, (.iconst 1, 1)), (778, (.isub, 1)), (779, (.aload 6, 2)), (781, (.aload_n 2, 1)), (782, (.iconst 0, 1)), (783, (.iaload, 1)), (784, (.iconst 1, 1)), (785, (.isub, 1)), (786, (.iaload, 1)), (787, (.iconst 0, 1)), (788, (.invokestatic 161, 3)), (791, (.ifCond .lt 7, 3)), (798, (.iconst 0, 1)), (794, (.iconst 1, 1)), (795, (.goto 4, 3)), (713, (.aload 5, 2)), (715, (.aload_n 2, 1)), (716, (.iconst 0, 1)), (717, (.iaload, 1)), (718, (.iconst 1, 1)), (719, (.isub, 1)), (720, (.iconst 1, 1)), (721, (.iastore, 1)), (722, (.aload 6, 2)), (724, (.aload_n 2, 1)), (725, (.iconst 0, 1)), (726, (.iaload, 1)), (727, (.iconst 1, 1)), (728, (.isub, 1)), (729, (.iload 24, 2)), (731, (.iconst 5, 1)), (732, (.idiv, 1)), (733, (.iconst 4, 1)), (734, (.irem, 1)), (735, (.iload 24, 2)), (737, (.iconst 5, 1)), (738, (.idiv, 1)), (739, (.iconst 4, 1)), (740, (.irem, 1)), (741, (.iconst 3, 1)), (742, (.if_icmp .le 7, 3)), (749, (.iconst 0, 1))]
theorem dt217_L_law_ok : ∀ q ∈ dt217_L_law, decode cL_law q.1 = .ok q.2 := by decide +kernel
theorem dL_law_757 : decode cL_law 757 = .ok (.iconst 1, 1) := g_dec dt217_L_law_ok (k := 0) rfl
theorem dL_law_758 : decode cL_law 758 = .ok (.isub, 1) := g_dec dt217_L_law_ok (k := 1) rfl
theorem dL_law_759 : decode cL_law 759 = .ok (.aload_n 2, 1) := g_dec dt217_L_law_ok (k := 2) rfl
theorem dL_law_760 : decode cL_law 760 = .ok (.bipush 7, 2) := g_dec dt217_L_law_ok (k := 3) rfl
theorem dL_law_762 : decode cL_law 762 = .ok (.iaload, 1) := g_dec dt217_L_law_ok (k := 4) rfl
theorem dL_law_763 : decode cL_law 763 = .ok (.iastore, 1) := g_dec dt217_L_law_ok (k := 5) rfl
theorem dL_law_764 : decode cL_law 764 = .ok (.aload_n 2, 1) := g_dec dt217_L_law_ok (k := 6) rfl
theorem dL_law_765 : decode cL_law 765 = .ok (.bipush 7, 2) := g_dec dt217_L_law_ok (k := 7) rfl
theorem dL_law_767 : decode cL_law 767 = .ok (.dup2, 1) := g_dec dt217_L_law_ok (k := 8) rfl
theorem dL_law_768 : decode cL_law 768 = .ok (.iaload, 1) := g_dec dt217_L_law_ok (k := 9) rfl
theorem dL_law_769 : decode cL_law 769 = .ok (.iconst 1, 1) := g_dec dt217_L_law_ok (k := 10) rfl
theorem dL_law_770 : decode cL_law 770 = .ok (.iadd, 1) := g_dec dt217_L_law_ok (k := 11) rfl
theorem dL_law_771 : decode cL_law 771 = .ok (.iastore, 1) := g_dec dt217_L_law_ok (k := 12) rfl
theorem dL_law_772 : decode cL_law 772 = .ok (.aload_n 1, 1) := g_dec dt217_L_law_ok (k := 13) rfl
theorem dL_law_773 : decode cL_law 773 = .ok (.iconst 4, 1) := g_dec dt217_L_law_ok (k := 14) rfl
theorem dL_law_774 : decode cL_law 774 = .ok (.aload_n 2, 1) := g_dec dt217_L_law_ok (k := 15) rfl
theorem dL_law_775 : decode cL_law 775 = .ok (.iconst 0, 1) := g_dec dt217_L_law_ok (k := 16) rfl
theorem dL_law_776 : decode cL_law 776 = .ok (.iaload, 1) := g_dec dt217_L_law_ok (k := 17) rfl
theorem dL_law_777 : decode cL_law 777 = .ok (.iconst 1, 1) := g_dec dt217_L_law_ok (k := 18) rfl
theorem dL_law_778 : decode cL_law 778 = .ok (.isub, 1) := g_dec dt217_L_law_ok (k := 19) rfl
theorem dL_law_779 : decode cL_law 779 = .ok (.aload 6, 2) := g_dec dt217_L_law_ok (k := 20) rfl
theorem dL_law_781 : decode cL_law 781 = .ok (.aload_n 2, 1) := g_dec dt217_L_law_ok (k := 21) rfl
theorem dL_law_782 : decode cL_law 782 = .ok (.iconst 0, 1) := g_dec dt217_L_law_ok (k := 22) rfl
theorem dL_law_783 : decode cL_law 783 = .ok (.iaload, 1) := g_dec dt217_L_law_ok (k := 23) rfl
theorem dL_law_784 : decode cL_law 784 = .ok (.iconst 1, 1) := g_dec dt217_L_law_ok (k := 24) rfl
theorem dL_law_785 : decode cL_law 785 = .ok (.isub, 1) := g_dec dt217_L_law_ok (k := 25) rfl
theorem dL_law_786 : decode cL_law 786 = .ok (.iaload, 1) := g_dec dt217_L_law_ok (k := 26) rfl
theorem dL_law_787 : decode cL_law 787 = .ok (.iconst 0, 1) := g_dec dt217_L_law_ok (k := 27) rfl
theorem dL_law_788 : decode cL_law 788 = .ok (.invokestatic 161, 3) := g_dec dt217_L_law_ok (k := 28) rfl
theorem dL_law_791 : decode cL_law 791 = .ok (.ifCond .lt 7, 3) := g_dec dt217_L_law_ok (k := 29) rfl
theorem dL_law_798 : decode cL_law 798 = .ok (.iconst 0, 1) := g_dec dt217_L_law_ok (k := 30) rfl
theorem dL_law_794 : decode cL_law 794 = .ok (.iconst 1, 1) := g_dec dt217_L_law_ok (k := 31) rfl
theorem dL_law_795 : decode cL_law 795 = .ok (.goto 4, 3) := g_dec dt217_L_law_ok (k := 32) rfl
theorem dL_law_713 : decode cL_law 713 = .ok (.aload 5, 2) := g_dec dt217_L_law_ok (k := 33) rfl
theorem dL_law_715 : decode cL_law 715 = .ok (.aload_n 2, 1) := g_dec dt217_L_law_ok (k := 34) rfl
theorem dL_law_716 : decode cL_law 716 = .ok (.iconst 0, 1) := g_dec dt217_L_law_ok (k := 35) rfl
theorem dL_law_717 : decode cL_law 717 = .ok (.iaload, 1) := g_dec dt217_L_law_ok (k := 36) rfl
theorem dL_law_718 : decode cL_law 718 = .ok (.iconst 1, 1) := g_dec dt217_L_law_ok (k := 37) rfl
theorem dL_law_719 : decode cL_law 719 = .ok (.isub, 1) := g_dec dt217_L_law_ok (k := 38) rfl
theorem dL_law_720 : decode cL_law 720 = .ok (.iconst 1, 1) := g_dec dt217_L_law_ok (k := 39) rfl
theorem dL_law_721 : decode cL_law 721 = .ok (.iastore, 1) := g_dec dt217_L_law_ok (k := 40) rfl
theorem dL_law_722 : decode cL_law 722 = .ok (.aload 6, 2) := g_dec dt217_L_law_ok (k := 41) rfl
theorem dL_law_724 : decode cL_law 724 = .ok (.aload_n 2, 1) := g_dec dt217_L_law_ok (k := 42) rfl
theorem dL_law_725 : decode cL_law 725 = .ok (.iconst 0, 1) := g_dec dt217_L_law_ok (k := 43) rfl
theorem dL_law_726 : decode cL_law 726 = .ok (.iaload, 1) := g_dec dt217_L_law_ok (k := 44) rfl
theorem dL_law_727 : decode cL_law 727 = .ok (.iconst 1, 1) := g_dec dt217_L_law_ok (k := 45) rfl
theorem dL_law_728 : decode cL_law 728 = .ok (.isub, 1) := g_dec dt217_L_law_ok (k := 46) rfl
theorem dL_law_729 : decode cL_law 729 = .ok (.iload 24, 2) := g_dec dt217_L_law_ok (k := 47) rfl
theorem dL_law_731 : decode cL_law 731 = .ok (.iconst 5, 1) := g_dec dt217_L_law_ok (k := 48) rfl
theorem dL_law_732 : decode cL_law 732 = .ok (.idiv, 1) := g_dec dt217_L_law_ok (k := 49) rfl
theorem dL_law_733 : decode cL_law 733 = .ok (.iconst 4, 1) := g_dec dt217_L_law_ok (k := 50) rfl
theorem dL_law_734 : decode cL_law 734 = .ok (.irem, 1) := g_dec dt217_L_law_ok (k := 51) rfl
theorem dL_law_735 : decode cL_law 735 = .ok (.iload 24, 2) := g_dec dt217_L_law_ok (k := 52) rfl
theorem dL_law_737 : decode cL_law 737 = .ok (.iconst 5, 1) := g_dec dt217_L_law_ok (k := 53) rfl
theorem dL_law_738 : decode cL_law 738 = .ok (.idiv, 1) := g_dec dt217_L_law_ok (k := 54) rfl
theorem dL_law_739 : decode cL_law 739 = .ok (.iconst 4, 1) := g_dec dt217_L_law_ok (k := 55) rfl
theorem dL_law_740 : decode cL_law 740 = .ok (.irem, 1) := g_dec dt217_L_law_ok (k := 56) rfl
theorem dL_law_741 : decode cL_law 741 = .ok (.iconst 3, 1) := g_dec dt217_L_law_ok (k := 57) rfl
theorem dL_law_742 : decode cL_law 742 = .ok (.if_icmp .le 7, 3) := g_dec dt217_L_law_ok (k := 58) rfl
theorem dL_law_749 : decode cL_law 749 = .ok (.iconst 0, 1) := g_dec dt217_L_law_ok (k := 59) rfl
def dt218_L_law : List (Nat × Instr × Nat) := [(745, (.iconst 1, 1)), (746, (.goto 4, 3)), (672, (.lastore, 1)), (673, (.aload 8, 2)), (675, (.aload_n 2, 1)), (676, (.iconst 0, 1)), (677, (.iaload, 1)), (678, (.iconst (-1), 1)), (679, (.iastore, 1)), (680, (.aload_n 2, 1)), (681, (.iconst 0, 1)), (682, (.dup2, 1)), (683, (.iaload, 1)), (684, (.iconst 1, 1)), (685, (.iadd, 1)), (686, (.iastore, 1)), (687, (.iload 20, 2)), (689, (.ifCond .eq 112, 3)), (692, (.iload 24, 2)), (694, (.iconst 5, 1)), (695, (.irem, 1)), (696, (.ifCond .le 105, 3)), (699, (.iload 29, 2)), (701, (.ifCond .lt 12, 3)), (704, (.aload 5, 2)), (706, (.iload 29, 2)), (708, (.iaload, 1)), (709, (.iconst 1, 1)), (710, (.if_icmp .ne 91, 3)), (580, (.istore 20, 2)), (582, (.aload_n 3, 1)), (583, (.aload_n 2, 1)), (584, (.iconst 0, 1)), (585, (.iaload, 1)), (586, (.iload 28, 2)), (588, (.iastore, 1)), (589, (.aload 4, 2)), (591, (.aload_n 2, 1)), (592, (.iconst 0, 1)), (593, (.iaload, 1)), (594, (.iload 29, 2)), (596, (.iastore, 1)), (597, (.aload 9, 2)), (599, (.aload_n 2, 1)), (600, (.iconst 0, 1)), (601, (.iaload, 1)), (602, (.iconst 1, 1)), (603, (.iload 32, 2)), (605, (.ishl, 1)), (606, (.iconst 1, 1)), (607, (.iload 33, 2)), (609, (.ishl, 1)), (610, (.ior, 1)), (611, (.iastore, 1)), (612, (.aload 10, 2)), (614, (.aload_n 2, 1)), (615, (.iconst 0, 1)), (616, (.iaload, 1)), (617, (.lload 30, 2)), (619, (.lastore, 1))]
theorem dt218_L_law_ok : ∀ q ∈ dt218_L_law, decode cL_law q.1 = .ok q.2 := by decide +kernel
theorem dL_law_745 : decode cL_law 745 = .ok (.iconst 1, 1) := g_dec dt218_L_law_ok (k := 0) rfl
theorem dL_law_746 : decode cL_law 746 = .ok (.goto 4, 3) := g_dec dt218_L_law_ok (k := 1) rfl
theorem dL_law_672 : decode cL_law 672 = .ok (.lastore, 1) := g_dec dt218_L_law_ok (k := 2) rfl
theorem dL_law_673 : decode cL_law 673 = .ok (.aload 8, 2) := g_dec dt218_L_law_ok (k := 3) rfl
theorem dL_law_675 : decode cL_law 675 = .ok (.aload_n 2, 1) := g_dec dt218_L_law_ok (k := 4) rfl
theorem dL_law_676 : decode cL_law 676 = .ok (.iconst 0, 1) := g_dec dt218_L_law_ok (k := 5) rfl
theorem dL_law_677 : decode cL_law 677 = .ok (.iaload, 1) := g_dec dt218_L_law_ok (k := 6) rfl
theorem dL_law_678 : decode cL_law 678 = .ok (.iconst (-1), 1) := g_dec dt218_L_law_ok (k := 7) rfl
theorem dL_law_679 : decode cL_law 679 = .ok (.iastore, 1) := g_dec dt218_L_law_ok (k := 8) rfl
theorem dL_law_680 : decode cL_law 680 = .ok (.aload_n 2, 1) := g_dec dt218_L_law_ok (k := 9) rfl
theorem dL_law_681 : decode cL_law 681 = .ok (.iconst 0, 1) := g_dec dt218_L_law_ok (k := 10) rfl
theorem dL_law_682 : decode cL_law 682 = .ok (.dup2, 1) := g_dec dt218_L_law_ok (k := 11) rfl
theorem dL_law_683 : decode cL_law 683 = .ok (.iaload, 1) := g_dec dt218_L_law_ok (k := 12) rfl
theorem dL_law_684 : decode cL_law 684 = .ok (.iconst 1, 1) := g_dec dt218_L_law_ok (k := 13) rfl
theorem dL_law_685 : decode cL_law 685 = .ok (.iadd, 1) := g_dec dt218_L_law_ok (k := 14) rfl
theorem dL_law_686 : decode cL_law 686 = .ok (.iastore, 1) := g_dec dt218_L_law_ok (k := 15) rfl
theorem dL_law_687 : decode cL_law 687 = .ok (.iload 20, 2) := g_dec dt218_L_law_ok (k := 16) rfl
theorem dL_law_689 : decode cL_law 689 = .ok (.ifCond .eq 112, 3) := g_dec dt218_L_law_ok (k := 17) rfl
theorem dL_law_692 : decode cL_law 692 = .ok (.iload 24, 2) := g_dec dt218_L_law_ok (k := 18) rfl
theorem dL_law_694 : decode cL_law 694 = .ok (.iconst 5, 1) := g_dec dt218_L_law_ok (k := 19) rfl
theorem dL_law_695 : decode cL_law 695 = .ok (.irem, 1) := g_dec dt218_L_law_ok (k := 20) rfl
theorem dL_law_696 : decode cL_law 696 = .ok (.ifCond .le 105, 3) := g_dec dt218_L_law_ok (k := 21) rfl
theorem dL_law_699 : decode cL_law 699 = .ok (.iload 29, 2) := g_dec dt218_L_law_ok (k := 22) rfl
theorem dL_law_701 : decode cL_law 701 = .ok (.ifCond .lt 12, 3) := g_dec dt218_L_law_ok (k := 23) rfl
theorem dL_law_704 : decode cL_law 704 = .ok (.aload 5, 2) := g_dec dt218_L_law_ok (k := 24) rfl
theorem dL_law_706 : decode cL_law 706 = .ok (.iload 29, 2) := g_dec dt218_L_law_ok (k := 25) rfl
theorem dL_law_708 : decode cL_law 708 = .ok (.iaload, 1) := g_dec dt218_L_law_ok (k := 26) rfl
theorem dL_law_709 : decode cL_law 709 = .ok (.iconst 1, 1) := g_dec dt218_L_law_ok (k := 27) rfl
theorem dL_law_710 : decode cL_law 710 = .ok (.if_icmp .ne 91, 3) := g_dec dt218_L_law_ok (k := 28) rfl
theorem dL_law_580 : decode cL_law 580 = .ok (.istore 20, 2) := g_dec dt218_L_law_ok (k := 29) rfl
theorem dL_law_582 : decode cL_law 582 = .ok (.aload_n 3, 1) := g_dec dt218_L_law_ok (k := 30) rfl
theorem dL_law_583 : decode cL_law 583 = .ok (.aload_n 2, 1) := g_dec dt218_L_law_ok (k := 31) rfl
theorem dL_law_584 : decode cL_law 584 = .ok (.iconst 0, 1) := g_dec dt218_L_law_ok (k := 32) rfl
theorem dL_law_585 : decode cL_law 585 = .ok (.iaload, 1) := g_dec dt218_L_law_ok (k := 33) rfl
theorem dL_law_586 : decode cL_law 586 = .ok (.iload 28, 2) := g_dec dt218_L_law_ok (k := 34) rfl
theorem dL_law_588 : decode cL_law 588 = .ok (.iastore, 1) := g_dec dt218_L_law_ok (k := 35) rfl
theorem dL_law_589 : decode cL_law 589 = .ok (.aload 4, 2) := g_dec dt218_L_law_ok (k := 36) rfl
theorem dL_law_591 : decode cL_law 591 = .ok (.aload_n 2, 1) := g_dec dt218_L_law_ok (k := 37) rfl
theorem dL_law_592 : decode cL_law 592 = .ok (.iconst 0, 1) := g_dec dt218_L_law_ok (k := 38) rfl
theorem dL_law_593 : decode cL_law 593 = .ok (.iaload, 1) := g_dec dt218_L_law_ok (k := 39) rfl
theorem dL_law_594 : decode cL_law 594 = .ok (.iload 29, 2) := g_dec dt218_L_law_ok (k := 40) rfl
theorem dL_law_596 : decode cL_law 596 = .ok (.iastore, 1) := g_dec dt218_L_law_ok (k := 41) rfl
theorem dL_law_597 : decode cL_law 597 = .ok (.aload 9, 2) := g_dec dt218_L_law_ok (k := 42) rfl
theorem dL_law_599 : decode cL_law 599 = .ok (.aload_n 2, 1) := g_dec dt218_L_law_ok (k := 43) rfl
theorem dL_law_600 : decode cL_law 600 = .ok (.iconst 0, 1) := g_dec dt218_L_law_ok (k := 44) rfl
theorem dL_law_601 : decode cL_law 601 = .ok (.iaload, 1) := g_dec dt218_L_law_ok (k := 45) rfl
theorem dL_law_602 : decode cL_law 602 = .ok (.iconst 1, 1) := g_dec dt218_L_law_ok (k := 46) rfl
theorem dL_law_603 : decode cL_law 603 = .ok (.iload 32, 2) := g_dec dt218_L_law_ok (k := 47) rfl
theorem dL_law_605 : decode cL_law 605 = .ok (.ishl, 1) := g_dec dt218_L_law_ok (k := 48) rfl
theorem dL_law_606 : decode cL_law 606 = .ok (.iconst 1, 1) := g_dec dt218_L_law_ok (k := 49) rfl
theorem dL_law_607 : decode cL_law 607 = .ok (.iload 33, 2) := g_dec dt218_L_law_ok (k := 50) rfl
theorem dL_law_609 : decode cL_law 609 = .ok (.ishl, 1) := g_dec dt218_L_law_ok (k := 51) rfl
theorem dL_law_610 : decode cL_law 610 = .ok (.ior, 1) := g_dec dt218_L_law_ok (k := 52) rfl
theorem dL_law_611 : decode cL_law 611 = .ok (.iastore, 1) := g_dec dt218_L_law_ok (k := 53) rfl
theorem dL_law_612 : decode cL_law 612 = .ok (.aload 10, 2) := g_dec dt218_L_law_ok (k := 54) rfl
theorem dL_law_614 : decode cL_law 614 = .ok (.aload_n 2, 1) := g_dec dt218_L_law_ok (k := 55) rfl
theorem dL_law_615 : decode cL_law 615 = .ok (.iconst 0, 1) := g_dec dt218_L_law_ok (k := 56) rfl
theorem dL_law_616 : decode cL_law 616 = .ok (.iaload, 1) := g_dec dt218_L_law_ok (k := 57) rfl
theorem dL_law_617 : decode cL_law 617 = .ok (.lload 30, 2) := g_dec dt218_L_law_ok (k := 58) rfl
theorem dL_law_619 : decode cL_law 619 = .ok (.lastore, 1) := g_dec dt218_L_law_ok (k := 59) rfl
def dt219_L_law : List (Nat × Instr × Nat) := [(620, (.aload 11, 2)), (622, (.aload_n 2, 1)), (623, (.iconst 0, 1)), (624, (.iaload, 1)), (625, (.iload 35, 2)), (627, (.i2l, 1)), (628, (.iconst 4, 1)), (629, (.iload 32, 2)), (631, (.imul, 1)), (632, (.lshl, 1)), (633, (.iload 36, 2)), (635, (.i2l, 1)), (636, (.iconst 4, 1)), (637, (.iload 33, 2)), (639, (.imul, 1)), (640, (.lshl, 1)), (641, (.lor, 1)), (642, (.lastore, 1)), (643, (.aload 11, 2)), (645, (.aload_n 2, 1)), (646, (.iconst 0, 1)), (647, (.iaload, 1)), (648, (.iload 32, 2)), (650, (.iload 33, 2)), (652, (.if_icmp .ne 14, 3)), (666, (.aload 11, 2)), (668, (.aload_n 2, 1)), (669, (.iconst 0, 1)), (670, (.iaload, 1)), (671, (.laload, 1)), (655, (.iload 35, 2)), (657, (.i2l, 1)), (658, (.iconst 4, 1)), (659, (.iload 32, 2)), (661, (.imul, 1)), (662, (.lshl, 1)), (663, (.goto 9, 3)), (579, (.iconst 0, 1))]
theorem dt219_L_law_ok : ∀ q ∈ dt219_L_law, decode cL_law q.1 = .ok q.2 := by decide +kernel
theorem dL_law_620 : decode cL_law 620 = .ok (.aload 11, 2) := g_dec dt219_L_law_ok (k := 0) rfl
theorem dL_law_622 : decode cL_law 622 = .ok (.aload_n 2, 1) := g_dec dt219_L_law_ok (k := 1) rfl
theorem dL_law_623 : decode cL_law 623 = .ok (.iconst 0, 1) := g_dec dt219_L_law_ok (k := 2) rfl
theorem dL_law_624 : decode cL_law 624 = .ok (.iaload, 1) := g_dec dt219_L_law_ok (k := 3) rfl
theorem dL_law_625 : decode cL_law 625 = .ok (.iload 35, 2) := g_dec dt219_L_law_ok (k := 4) rfl
theorem dL_law_627 : decode cL_law 627 = .ok (.i2l, 1) := g_dec dt219_L_law_ok (k := 5) rfl
theorem dL_law_628 : decode cL_law 628 = .ok (.iconst 4, 1) := g_dec dt219_L_law_ok (k := 6) rfl
theorem dL_law_629 : decode cL_law 629 = .ok (.iload 32, 2) := g_dec dt219_L_law_ok (k := 7) rfl
theorem dL_law_631 : decode cL_law 631 = .ok (.imul, 1) := g_dec dt219_L_law_ok (k := 8) rfl
theorem dL_law_632 : decode cL_law 632 = .ok (.lshl, 1) := g_dec dt219_L_law_ok (k := 9) rfl
theorem dL_law_633 : decode cL_law 633 = .ok (.iload 36, 2) := g_dec dt219_L_law_ok (k := 10) rfl
theorem dL_law_635 : decode cL_law 635 = .ok (.i2l, 1) := g_dec dt219_L_law_ok (k := 11) rfl
theorem dL_law_636 : decode cL_law 636 = .ok (.iconst 4, 1) := g_dec dt219_L_law_ok (k := 12) rfl
theorem dL_law_637 : decode cL_law 637 = .ok (.iload 33, 2) := g_dec dt219_L_law_ok (k := 13) rfl
theorem dL_law_639 : decode cL_law 639 = .ok (.imul, 1) := g_dec dt219_L_law_ok (k := 14) rfl
theorem dL_law_640 : decode cL_law 640 = .ok (.lshl, 1) := g_dec dt219_L_law_ok (k := 15) rfl
theorem dL_law_641 : decode cL_law 641 = .ok (.lor, 1) := g_dec dt219_L_law_ok (k := 16) rfl
theorem dL_law_642 : decode cL_law 642 = .ok (.lastore, 1) := g_dec dt219_L_law_ok (k := 17) rfl
theorem dL_law_643 : decode cL_law 643 = .ok (.aload 11, 2) := g_dec dt219_L_law_ok (k := 18) rfl
theorem dL_law_645 : decode cL_law 645 = .ok (.aload_n 2, 1) := g_dec dt219_L_law_ok (k := 19) rfl
theorem dL_law_646 : decode cL_law 646 = .ok (.iconst 0, 1) := g_dec dt219_L_law_ok (k := 20) rfl
theorem dL_law_647 : decode cL_law 647 = .ok (.iaload, 1) := g_dec dt219_L_law_ok (k := 21) rfl
theorem dL_law_648 : decode cL_law 648 = .ok (.iload 32, 2) := g_dec dt219_L_law_ok (k := 22) rfl
theorem dL_law_650 : decode cL_law 650 = .ok (.iload 33, 2) := g_dec dt219_L_law_ok (k := 23) rfl
theorem dL_law_652 : decode cL_law 652 = .ok (.if_icmp .ne 14, 3) := g_dec dt219_L_law_ok (k := 24) rfl
theorem dL_law_666 : decode cL_law 666 = .ok (.aload 11, 2) := g_dec dt219_L_law_ok (k := 25) rfl
theorem dL_law_668 : decode cL_law 668 = .ok (.aload_n 2, 1) := g_dec dt219_L_law_ok (k := 26) rfl
theorem dL_law_669 : decode cL_law 669 = .ok (.iconst 0, 1) := g_dec dt219_L_law_ok (k := 27) rfl
theorem dL_law_670 : decode cL_law 670 = .ok (.iaload, 1) := g_dec dt219_L_law_ok (k := 28) rfl
theorem dL_law_671 : decode cL_law 671 = .ok (.laload, 1) := g_dec dt219_L_law_ok (k := 29) rfl
theorem dL_law_655 : decode cL_law 655 = .ok (.iload 35, 2) := g_dec dt219_L_law_ok (k := 30) rfl
theorem dL_law_657 : decode cL_law 657 = .ok (.i2l, 1) := g_dec dt219_L_law_ok (k := 31) rfl
theorem dL_law_658 : decode cL_law 658 = .ok (.iconst 4, 1) := g_dec dt219_L_law_ok (k := 32) rfl
theorem dL_law_659 : decode cL_law 659 = .ok (.iload 32, 2) := g_dec dt219_L_law_ok (k := 33) rfl
theorem dL_law_661 : decode cL_law 661 = .ok (.imul, 1) := g_dec dt219_L_law_ok (k := 34) rfl
theorem dL_law_662 : decode cL_law 662 = .ok (.lshl, 1) := g_dec dt219_L_law_ok (k := 35) rfl
theorem dL_law_663 : decode cL_law 663 = .ok (.goto 9, 3) := g_dec dt219_L_law_ok (k := 36) rfl
theorem dL_law_579 : decode cL_law 579 = .ok (.iconst 0, 1) := g_dec dt219_L_law_ok (k := 37) rfl
section
variable {p : Program} {l : Launch} {e : Env} {s : State} {m : MethodId} {args : Array Value} {below : List Frame} {meth : Method} {c : Code} {D : va_G} {y : Nat → ClassId} {aS : Nat → Nat} {A : Nat → Prop} {L : List Nat} {ad0 : Nat → Nat} {N : Nat} {res : Int32} {b Lx : Nat} {xs : Nat → Int32}
def fL_law_1366 (N : Nat) (xs : Nat → Int32) (Lx : Nat) (rec221 : (gS × Int32 × Int32) → Option Int32) (σ : gS) (x21 : Int32) (x24 : Int32) (x28 : Int32) (x29 : Int32) (xs0 : Int32) (xs1 : Int32) : Option Int32 := if xs1 = xs0 then (fL_law_1374 N xs Lx rec221 σ x21 x24 x28 x29 1) else (fL_law_1374 N xs Lx rec221 σ x21 x24 x28 x29 0)
set_option maxRecDepth 100000 in
set_option maxHeartbeats 1000000 in
theorem wL_law_1366 {rec221 : (gS × Int32 × Int32) → Option Int32} {σ : gS} {x21 : Int32} {x24 : Int32} {x28 : Int32} {x29 : Int32} {xs0 : Int32} {xs1 : Int32} {ad : Nat → Nat} {kc ns : Nat} (hx : p.tables.exec = Jvm.exec) (hb : c.code = cL_law) (hr : meth.sig.returnType = (some .boolean)) (hml : c.maxLocals = 37) (hown : s.vm.findClass RL = some m.cls) (hg : ∀ w ∈ wsL_law, w.before args s = true) (hlocks : meth.locks = false) (hK : gK D y aS s) (hA : ∀ q, s.heap.size ≤ q → A q) (hL : ∀ k, k < 179 → k ∈ L) (hfl : l.stackTraces = false) (hZ : gZ A s s.heap) (hX : va_X b Lx xs s s.heap) (hbl : b < s.heap.size) (hA2 : ∀ q, A q → s.heap.size ≤ q) (hres : res = 1) (hL2 : ∀ k ∈ L, k < 179) (hrec221 : ∀ {ad : Nat → Nat} {kc ns : Nat} {σ9 : gS} {x20n9 : Int32} {x21n9 : Int32} (hkc : kc ≤ 183 + 643 * x21n9.toInt.toNat + 0) (hns : ns ≤ 3391 + 81814 * x21n9.toInt.toNat + 0) (hi0 : 0 ≤ x21n9.toInt) (hi8 : x21n9.toInt ≤ 80) (H : Heap) (locs : List Loc) (ls : Array Slot), gY D y A s L ad σ9 H locs → lv_has ls 37 [(0, .ref b), (1, .ref (ad 0)), (2, .ref (ad 161)), (3, .ref (ad 162)), (4, .ref (ad 163)), (5, .ref (ad 164)), (6, .ref (ad 165)), (7, .ref (ad 166)), (8, .ref (ad 167)), (9, .ref (ad 168)), (10, .ref (ad 169)), (11, .ref (ad 170)), (12, .ref (ad 171)), (13, .ref (ad 172)), (14, .ref (ad 173)), (15, .ref (ad 174)), (16, .ref (ad 175)), (17, .ref (ad 176)), (18, .ref (ad 177)), (19, .ref (ad 178)), (20, .int x20n9), (21, .int x21n9)] → rec221 (σ9, x20n9, x21n9) = some res → W p l e room_1 s m args below meth c H locs kc ns (lw_Z below args s) (F0 m 221 ls [])) (hkc : kc ≤ 183 + 643 * x21.toInt.toNat + 0) (hns : ns ≤ 3391 + 81814 * x21.toInt.toNat + 0) (hi0 : 0 ≤ x21.toInt) (hi8 : x21.toInt < 80) {H : Heap} {locs : List Loc} {ls : Array Slot} (hY : gY D y A s L ad σ H locs) (hl : lv_has ls 37 [(0, .ref b), (1, .ref (ad 0)), (2, .ref (ad 161)), (3, .ref (ad 162)), (4, .ref (ad 163)), (5, .ref (ad 164)), (6, .ref (ad 165)), (7, .ref (ad 166)), (8, .ref (ad 167)), (9, .ref (ad 168)), (10, .ref (ad 169)), (11, .ref (ad 170)), (12, .ref (ad 171)), (13, .ref (ad 172)), (14, .ref (ad 173)), (15, .ref (ad 174)), (16, .ref (ad 175)), (17, .ref (ad 176)), (18, .ref (ad 177)), (19, .ref (ad 178)), (21, .int x21), (24, .int x24), (28, .int x28), (29, .int x29)]) (h : fL_law_1366 N xs Lx rec221 σ x21 x24 x28 x29 xs0 xs1 = some res) : W p l e room_1 s m args below meth c H locs kc ns (lw_Z below args s) (F0 m 1366 ls [.int xs0, .int xs1]) := by
  unfold fL_law_1366 at h
  refine lv_icmp_ne (tgt := 1373) hx hb dL_law_1366 (by decide) (fun z_1 => ?_) (fun z_1 => ?_)
  ·
    rw [if_neg z_1] at h
    refine lv_iconst (v := 0) hx hb dL_law_1373 (by decide) ?_
    exact wL_law_1374 hx hb hr hml hown hg hlocks hK hA hL hfl hZ hX hbl hA2 hres hL2 hrec221 (by first | omega | (simp only [g_l0]; omega)) (by first | omega | (simp only [g_l0]; omega)) (by first | omega | (simp only [g_l0]; omega)) (by first | omega | (simp only [g_l0]; omega)) hY (lv_sub hl [0, 1, 2, 3, 4, 5, 6, 7, 8, 9, 10, 11, 12, 13, 14, 15, 16, 17, 18, 19, 20, 21, 22, 23] rfl) h
  ·
    rw [if_pos z_1] at h
    refine lv_iconst (v := 1) hx hb dL_law_1369 (by decide) ?_
    refine lv_goto (tgt := 1374) hx hb dL_law_1370 (by decide) ?_
    exact wL_law_1374 hx hb hr hml hown hg hlocks hK hA hL hfl hZ hX hbl hA2 hres hL2 hrec221 (by first | omega | (simp only [g_l0]; omega)) (by first | omega | (simp only [g_l0]; omega)) (by first | omega | (simp only [g_l0]; omega)) (by first | omega | (simp only [g_l0]; omega)) hY (lv_sub hl [0, 1, 2, 3, 4, 5, 6, 7, 8, 9, 10, 11, 12, 13, 14, 15, 16, 17, 18, 19, 20, 21, 22, 23] rfl) h
def fL_law_1337 (N : Nat) (xs : Nat → Int32) (Lx : Nat) (rec221 : (gS × Int32 × Int32) → Option Int32) (σ : gS) (x21 : Int32) (x24 : Int32) (x28 : Int32) (xs0 : Int32) : Option Int32 := (fX11_outside N σ x28 xs0).bind fun r_1 => if ((12 * x28) + 3) < 0 ∨ 48 ≤ ((12 * x28) + 3).toNatClampNeg then none else (if (r_1.2.1 172 (((12 * x28) + 3).toNatClampNeg)) = 1 then (fL_law_1366 N xs Lx rec221 r_1.2 x21 x24 x28 xs0 1 r_1.1) else (fL_law_1366 N xs Lx rec221 r_1.2 x21 x24 x28 xs0 0 r_1.1))
set_option maxRecDepth 100000 in
set_option maxHeartbeats 1000000 in
theorem wL_law_1337 {rec221 : (gS × Int32 × Int32) → Option Int32} {σ : gS} {x21 : Int32} {x24 : Int32} {x28 : Int32} {xs0 : Int32} {ad : Nat → Nat} {kc ns : Nat} (hx : p.tables.exec = Jvm.exec) (hb : c.code = cL_law) (hr : meth.sig.returnType = (some .boolean)) (hml : c.maxLocals = 37) (hown : s.vm.findClass RL = some m.cls) (hg : ∀ w ∈ wsL_law, w.before args s = true) (hlocks : meth.locks = false) (hK : gK D y aS s) (hA : ∀ q, s.heap.size ≤ q → A q) (hL : ∀ k, k < 179 → k ∈ L) (hfl : l.stackTraces = false) (hZ : gZ A s s.heap) (hX : va_X b Lx xs s s.heap) (hbl : b < s.heap.size) (hA2 : ∀ q, A q → s.heap.size ≤ q) (hres : res = 1) (hL2 : ∀ k ∈ L, k < 179) (hrec221 : ∀ {ad : Nat → Nat} {kc ns : Nat} {σ9 : gS} {x20n9 : Int32} {x21n9 : Int32} (hkc : kc ≤ 183 + 643 * x21n9.toInt.toNat + 0) (hns : ns ≤ 3391 + 81814 * x21n9.toInt.toNat + 0) (hi0 : 0 ≤ x21n9.toInt) (hi8 : x21n9.toInt ≤ 80) (H : Heap) (locs : List Loc) (ls : Array Slot), gY D y A s L ad σ9 H locs → lv_has ls 37 [(0, .ref b), (1, .ref (ad 0)), (2, .ref (ad 161)), (3, .ref (ad 162)), (4, .ref (ad 163)), (5, .ref (ad 164)), (6, .ref (ad 165)), (7, .ref (ad 166)), (8, .ref (ad 167)), (9, .ref (ad 168)), (10, .ref (ad 169)), (11, .ref (ad 170)), (12, .ref (ad 171)), (13, .ref (ad 172)), (14, .ref (ad 173)), (15, .ref (ad 174)), (16, .ref (ad 175)), (17, .ref (ad 176)), (18, .ref (ad 177)), (19, .ref (ad 178)), (20, .int x20n9), (21, .int x21n9)] → rec221 (σ9, x20n9, x21n9) = some res → W p l e room_1 s m args below meth c H locs kc ns (lw_Z below args s) (F0 m 221 ls [])) (hkc : kc ≤ 183 + 643 * x21.toInt.toNat + 0) (hns : ns ≤ 3391 + 81814 * x21.toInt.toNat + 0) (hi0 : 0 ≤ x21.toInt) (hi8 : x21.toInt < 80) {H : Heap} {locs : List Loc} {ls : Array Slot} (hY : gY D y A s L ad σ H locs) (hl : lv_has ls 37 [(0, .ref b), (1, .ref (ad 0)), (2, .ref (ad 161)), (3, .ref (ad 162)), (4, .ref (ad 163)), (5, .ref (ad 164)), (6, .ref (ad 165)), (7, .ref (ad 166)), (8, .ref (ad 167)), (9, .ref (ad 168)), (10, .ref (ad 169)), (11, .ref (ad 170)), (12, .ref (ad 171)), (13, .ref (ad 172)), (14, .ref (ad 173)), (15, .ref (ad 174)), (16, .ref (ad 175)), (17, .ref (ad 176)), (18, .ref (ad 177)), (19, .ref (ad 178)), (21, .int x21), (24, .int x24), (28, .int x28)]) (h : fL_law_1337 N xs Lx rec221 σ x21 x24 x28 xs0 = some res) : W p l e room_1 s m args below meth c H locs kc ns (lw_Z below args s) (F0 m 1337 ls [.int xs0]) := by
  unfold fL_law_1337 at h
  refine lv_istore (lv' := [(29, .int xs0), (0, .ref b), (1, .ref (ad 0)), (2, .ref (ad 161)), (3, .ref (ad 162)), (4, .ref (ad 163)), (5, .ref (ad 164)), (6, .ref (ad 165)), (7, .ref (ad 166)), (8, .ref (ad 167)), (9, .ref (ad 168)), (10, .ref (ad 169)), (11, .ref (ad 170)), (12, .ref (ad 171)), (13, .ref (ad 172)), (14, .ref (ad 173)), (15, .ref (ad 174)), (16, .ref (ad 175)), (17, .ref (ad 176)), (18, .ref (ad 177)), (19, .ref (ad 178)), (21, .int x21), (24, .int x24), (28, .int x28)]) hx hb dL_law_1337 hl (by decide) rfl ?_
  clear hl
  intro ls hl
  refine lv_aload_n hx hb dL_law_1339 rfl (lv_at hl 2 rfl) ?_
  refine lv_iload hx hb dL_law_1340 (lv_at hl 23 rfl) ?_
  refine lv_iload hx hb dL_law_1342 (lv_at hl 0 rfl) ?_
  obtain ⟨r_1, e_2, h⟩ := g_bind h
  refine G_ai hY hA (va_runV (As := [.int x28, .int xs0]) (rest := []) ⟨hx, hb, hml, hown, hg⟩ (kX11_outside l D y aS H.size L hL ad N σ x28 xs0 _ e_2) (cwV 2 hg ggV_RL_221_X11_outside rfl rfl rfl (by decide +kernel) ⟨Nat.le_of_ble_eq_true rfl, Nat.le_of_ble_eq_true rfl⟩) (G_pV (q := (RX11, TX11, 19)) hK hY (hL 0 (by decide)) gk_0 (by decide) rfl) rfl rfl hl.1 rfl (lv_room (Nat.le_of_ble_eq_true rfl)) dL_law_1344 ⟨(by first | omega | (show _ ≤ (600086 : Nat); omega) | (show _ ≤ (7301442 : Nat); omega)), (by first | omega | (show _ ≤ (600086 : Nat); omega) | (show _ ≤ (7301442 : Nat); omega))⟩) ?_
  clear hY
  rintro _ H locs rfl hY
  refine lv_aload hx hb dL_law_1347 (lv_at hl 14 rfl) ?_
  refine lv_bipush (v := 12) hx hb dL_law_1349 (by decide +kernel) ?_
  refine lv_iload hx hb dL_law_1351 (lv_at hl 23 rfl) ?_
  refine lv_imul hx hb dL_law_1353 ?_
  refine lv_iconst (v := 3) hx hb dL_law_1354 (by decide) ?_
  refine lv_iadd hx hb dL_law_1355 ?_
  obtain ⟨z_3, h⟩ := g_guard h
  refine G_iald (j := ((12 * x28) + 3).toNatClampNeg) hx hb hK hY (hL 172 (by decide)) gk_172 (by rw [gl_172]; exact z_3) rfl dL_law_1356 ?_
  refine lv_iconst (v := 1) hx hb dL_law_1357 (by decide) ?_
  refine lv_icmp_ne (tgt := 1365) hx hb dL_law_1358 (by decide) (fun z_4 => ?_) (fun z_4 => ?_)
  ·
    rw [if_neg z_4] at h
    refine lv_iconst (v := 0) hx hb dL_law_1365 (by decide) ?_
    exact wL_law_1366 hx hb hr hml hown hg hlocks hK hA hL hfl hZ hX hbl hA2 hres hL2 hrec221 (by first | omega | (simp only [g_l0]; omega)) (by first | omega | (simp only [g_l0]; omega)) (by first | omega | (simp only [g_l0]; omega)) (by first | omega | (simp only [g_l0]; omega)) hY (lv_sub hl [1, 2, 3, 4, 5, 6, 7, 8, 9, 10, 11, 12, 13, 14, 15, 16, 17, 18, 19, 20, 21, 22, 23, 0] rfl) h
  ·
    rw [if_pos z_4] at h
    refine lv_iconst (v := 1) hx hb dL_law_1361 (by decide) ?_
    refine lv_goto (tgt := 1366) hx hb dL_law_1362 (by decide) ?_
    exact wL_law_1366 hx hb hr hml hown hg hlocks hK hA hL hfl hZ hX hbl hA2 hres hL2 hrec221 (by first | omega | (simp only [g_l0]; omega)) (by first | omega | (simp only [g_l0]; omega)) (by first | omega | (simp only [g_l0]; omega)) (by first | omega | (simp only [g_l0]; omega)) hY (lv_sub hl [1, 2, 3, 4, 5, 6, 7, 8, 9, 10, 11, 12, 13, 14, 15, 16, 17, 18, 19, 20, 21, 22, 23, 0] rfl) h
def fL_law_1302 (N : Nat) (xs : Nat → Int32) (Lx : Nat) (rec221 : (gS × Int32 × Int32) → Option Int32) (σ : gS) (x21 : Int32) (x23 : Int32) (x24 : Int32) (x25 : Int64) (x27 : Int32) : Option Int32 := if x23 = 13 then (if (σ.1 161 2) ≤ 0 then (fL_law_1435 N xs Lx rec221 σ x21 x23 x24 x25 x27) else (if (σ.1 161 2) = 0 then none else (if ((x24 / 4) - (x24 / 4) / 2 * 2) = 0 then (fL_law_1337 N xs Lx rec221 σ x21 x24 (x24 - x24 / (σ.1 161 2) * (σ.1 161 2)) 1) else (fL_law_1337 N xs Lx rec221 σ x21 x24 (x24 - x24 / (σ.1 161 2) * (σ.1 161 2)) 0)))) else (fL_law_1435 N xs Lx rec221 σ x21 x23 x24 x25 x27)
set_option maxRecDepth 100000 in
set_option maxHeartbeats 1000000 in
theorem wL_law_1302 {rec221 : (gS × Int32 × Int32) → Option Int32} {σ : gS} {x21 : Int32} {x23 : Int32} {x24 : Int32} {x25 : Int64} {x27 : Int32} {ad : Nat → Nat} {kc ns : Nat} (hx : p.tables.exec = Jvm.exec) (hb : c.code = cL_law) (hr : meth.sig.returnType = (some .boolean)) (hml : c.maxLocals = 37) (hown : s.vm.findClass RL = some m.cls) (hg : ∀ w ∈ wsL_law, w.before args s = true) (hlocks : meth.locks = false) (hK : gK D y aS s) (hA : ∀ q, s.heap.size ≤ q → A q) (hL : ∀ k, k < 179 → k ∈ L) (hfl : l.stackTraces = false) (hZ : gZ A s s.heap) (hX : va_X b Lx xs s s.heap) (hbl : b < s.heap.size) (hA2 : ∀ q, A q → s.heap.size ≤ q) (hres : res = 1) (hL2 : ∀ k ∈ L, k < 179) (hrec221 : ∀ {ad : Nat → Nat} {kc ns : Nat} {σ9 : gS} {x20n9 : Int32} {x21n9 : Int32} (hkc : kc ≤ 183 + 643 * x21n9.toInt.toNat + 0) (hns : ns ≤ 3391 + 81814 * x21n9.toInt.toNat + 0) (hi0 : 0 ≤ x21n9.toInt) (hi8 : x21n9.toInt ≤ 80) (H : Heap) (locs : List Loc) (ls : Array Slot), gY D y A s L ad σ9 H locs → lv_has ls 37 [(0, .ref b), (1, .ref (ad 0)), (2, .ref (ad 161)), (3, .ref (ad 162)), (4, .ref (ad 163)), (5, .ref (ad 164)), (6, .ref (ad 165)), (7, .ref (ad 166)), (8, .ref (ad 167)), (9, .ref (ad 168)), (10, .ref (ad 169)), (11, .ref (ad 170)), (12, .ref (ad 171)), (13, .ref (ad 172)), (14, .ref (ad 173)), (15, .ref (ad 174)), (16, .ref (ad 175)), (17, .ref (ad 176)), (18, .ref (ad 177)), (19, .ref (ad 178)), (20, .int x20n9), (21, .int x21n9)] → rec221 (σ9, x20n9, x21n9) = some res → W p l e room_1 s m args below meth c H locs kc ns (lw_Z below args s) (F0 m 221 ls [])) (hkc : kc ≤ 183 + 643 * x21.toInt.toNat + 0) (hns : ns ≤ 3391 + 81814 * x21.toInt.toNat + 0) (hi0 : 0 ≤ x21.toInt) (hi8 : x21.toInt < 80) {H : Heap} {locs : List Loc} {ls : Array Slot} (hY : gY D y A s L ad σ H locs) (hl : lv_has ls 37 [(0, .ref b), (1, .ref (ad 0)), (2, .ref (ad 161)), (3, .ref (ad 162)), (4, .ref (ad 163)), (5, .ref (ad 164)), (6, .ref (ad 165)), (7, .ref (ad 166)), (8, .ref (ad 167)), (9, .ref (ad 168)), (10, .ref (ad 169)), (11, .ref (ad 170)), (12, .ref (ad 171)), (13, .ref (ad 172)), (14, .ref (ad 173)), (15, .ref (ad 174)), (16, .ref (ad 175)), (17, .ref (ad 176)), (18, .ref (ad 177)), (19, .ref (ad 178)), (21, .int x21), (23, .int x23), (24, .int x24), (25, .long x25), (27, .int x27)]) (h : fL_law_1302 N xs Lx rec221 σ x21 x23 x24 x25 x27 = some res) : W p l e room_1 s m args below meth c H locs kc ns (lw_Z below args s) (F0 m 1302 ls []) := by
  unfold fL_law_1302 at h
  refine lv_iload hx hb dL_law_1302 (lv_at hl 21 rfl) ?_
  refine lv_bipush (v := 13) hx hb dL_law_1304 (by decide +kernel) ?_
  refine lv_icmp_ne (tgt := 1435) hx hb dL_law_1306 (by decide) (fun z_1 => ?_) (fun z_1 => ?_)
  ·
    rw [if_neg z_1] at h
    exact wL_law_1435 hx hb hr hml hown hg hlocks hK hA hL hfl hZ hX hbl hA2 hres hL2 hrec221 (by first | omega | (simp only [g_l0]; omega)) (by first | omega | (simp only [g_l0]; omega)) (by first | omega | (simp only [g_l0]; omega)) (by first | omega | (simp only [g_l0]; omega)) hY (lv_sub hl [0, 1, 2, 3, 4, 5, 6, 7, 8, 9, 10, 11, 12, 13, 14, 15, 16, 17, 18, 19, 20, 21, 22, 23, 24] rfl) h
  ·
    rw [if_pos z_1] at h
    refine lv_aload_n hx hb dL_law_1309 rfl (lv_at hl 2 rfl) ?_
    refine lv_iconst (v := 2) hx hb dL_law_1310 (by decide) ?_
    refine G_iald (j := 2) hx hb hK hY (hL 161 (by decide)) gk_161 (by rw [gl_161]; decide +kernel) (by decide +kernel) dL_law_1311 ?_
    refine lv_if_le (tgt := 1435) hx hb dL_law_1312 (by decide) (fun z_2 => ?_) (fun z_2 => ?_)
    ·
      rw [if_pos z_2] at h
      have qz_2 := g_let z_2; (try simp only [g_l0, g_l3, g_l6, g_l80] at qz_2)
      exact wL_law_1435 hx hb hr hml hown hg hlocks hK hA hL hfl hZ hX hbl hA2 hres hL2 hrec221 (by first | omega | (simp only [g_l0]; omega)) (by first | omega | (simp only [g_l0]; omega)) (by first | omega | (simp only [g_l0]; omega)) (by first | omega | (simp only [g_l0]; omega)) hY (lv_sub hl [0, 1, 2, 3, 4, 5, 6, 7, 8, 9, 10, 11, 12, 13, 14, 15, 16, 17, 18, 19, 20, 21, 22, 23, 24] rfl) h
    ·
      rw [if_neg z_2] at h
      have qz_2 := g_lef z_2; (try simp only [g_l0, g_l3, g_l6, g_l80] at qz_2)
      refine lv_iload hx hb dL_law_1315 (lv_at hl 22 rfl) ?_
      refine lv_aload_n hx hb dL_law_1317 rfl (lv_at hl 2 rfl) ?_
      refine lv_iconst (v := 2) hx hb dL_law_1318 (by decide) ?_
      refine G_iald (j := 2) hx hb hK hY (hL 161 (by decide)) gk_161 (by rw [gl_161]; decide +kernel) (by decide +kernel) dL_law_1319 ?_
      obtain ⟨z_3, h⟩ := g_guard h
      refine lv_irem hx hb dL_law_1320 z_3 ?_
      refine lv_istore (lv' := [(28, .int (x24 - x24 / (σ.1 161 2) * (σ.1 161 2))), (0, .ref b), (1, .ref (ad 0)), (2, .ref (ad 161)), (3, .ref (ad 162)), (4, .ref (ad 163)), (5, .ref (ad 164)), (6, .ref (ad 165)), (7, .ref (ad 166)), (8, .ref (ad 167)), (9, .ref (ad 168)), (10, .ref (ad 169)), (11, .ref (ad 170)), (12, .ref (ad 171)), (13, .ref (ad 172)), (14, .ref (ad 173)), (15, .ref (ad 174)), (16, .ref (ad 175)), (17, .ref (ad 176)), (18, .ref (ad 177)), (19, .ref (ad 178)), (21, .int x21), (23, .int x23), (24, .int x24), (25, .long x25), (27, .int x27)]) hx hb dL_law_1321 hl (by decide) rfl ?_
      clear hl
      intro ls hl
      refine lv_iload hx hb dL_law_1323 (lv_at hl 23 rfl) ?_
      refine lv_iconst (v := 4) hx hb dL_law_1325 (by decide) ?_
      refine lv_idiv hx hb dL_law_1326 (by decide +kernel) ?_
      refine lv_iconst (v := 2) hx hb dL_law_1327 (by decide) ?_
      refine lv_irem hx hb dL_law_1328 (by decide +kernel) ?_
      refine lv_if_ne (tgt := 1336) hx hb dL_law_1329 (by decide) (fun z_4 => ?_) (fun z_4 => ?_)
      ·
        rw [if_neg z_4] at h
        refine lv_iconst (v := 0) hx hb dL_law_1336 (by decide) ?_
        exact wL_law_1337 hx hb hr hml hown hg hlocks hK hA hL hfl hZ hX hbl hA2 hres hL2 hrec221 (by first | omega | (simp only [g_l0]; omega)) (by first | omega | (simp only [g_l0]; omega)) (by first | omega | (simp only [g_l0]; omega)) (by first | omega | (simp only [g_l0]; omega)) hY (lv_sub hl [1, 2, 3, 4, 5, 6, 7, 8, 9, 10, 11, 12, 13, 14, 15, 16, 17, 18, 19, 20, 21, 23, 0] rfl) h
      ·
        rw [if_pos z_4] at h
        refine lv_iconst (v := 1) hx hb dL_law_1332 (by decide) ?_
        refine lv_goto (tgt := 1337) hx hb dL_law_1333 (by decide) ?_
        exact wL_law_1337 hx hb hr hml hown hg hlocks hK hA hL hfl hZ hX hbl hA2 hres hL2 hrec221 (by first | omega | (simp only [g_l0]; omega)) (by first | omega | (simp only [g_l0]; omega)) (by first | omega | (simp only [g_l0]; omega)) (by first | omega | (simp only [g_l0]; omega)) hY (lv_sub hl [1, 2, 3, 4, 5, 6, 7, 8, 9, 10, 11, 12, 13, 14, 15, 16, 17, 18, 19, 20, 21, 23, 0] rfl) h
def fL_law_1299 (N : Nat) (xs : Nat → Int32) (Lx : Nat) (rec221 : (gS × Int32 × Int32) → Option Int32) (σ : gS) (x20 : Int32) (x21 : Int32) (x24 : Int32) : Option Int32 := fL_law_2698 N xs Lx rec221 σ x20 x21 x24
set_option maxRecDepth 100000 in
set_option maxHeartbeats 1000000 in
theorem wL_law_1299 {rec221 : (gS × Int32 × Int32) → Option Int32} {σ : gS} {x20 : Int32} {x21 : Int32} {x24 : Int32} {ad : Nat → Nat} {kc ns : Nat} (hx : p.tables.exec = Jvm.exec) (hb : c.code = cL_law) (hr : meth.sig.returnType = (some .boolean)) (hml : c.maxLocals = 37) (hown : s.vm.findClass RL = some m.cls) (hg : ∀ w ∈ wsL_law, w.before args s = true) (hlocks : meth.locks = false) (hK : gK D y aS s) (hA : ∀ q, s.heap.size ≤ q → A q) (hL : ∀ k, k < 179 → k ∈ L) (hfl : l.stackTraces = false) (hZ : gZ A s s.heap) (hX : va_X b Lx xs s s.heap) (hbl : b < s.heap.size) (hA2 : ∀ q, A q → s.heap.size ≤ q) (hres : res = 1) (hL2 : ∀ k ∈ L, k < 179) (hrec221 : ∀ {ad : Nat → Nat} {kc ns : Nat} {σ9 : gS} {x20n9 : Int32} {x21n9 : Int32} (hkc : kc ≤ 183 + 643 * x21n9.toInt.toNat + 0) (hns : ns ≤ 3391 + 81814 * x21n9.toInt.toNat + 0) (hi0 : 0 ≤ x21n9.toInt) (hi8 : x21n9.toInt ≤ 80) (H : Heap) (locs : List Loc) (ls : Array Slot), gY D y A s L ad σ9 H locs → lv_has ls 37 [(0, .ref b), (1, .ref (ad 0)), (2, .ref (ad 161)), (3, .ref (ad 162)), (4, .ref (ad 163)), (5, .ref (ad 164)), (6, .ref (ad 165)), (7, .ref (ad 166)), (8, .ref (ad 167)), (9, .ref (ad 168)), (10, .ref (ad 169)), (11, .ref (ad 170)), (12, .ref (ad 171)), (13, .ref (ad 172)), (14, .ref (ad 173)), (15, .ref (ad 174)), (16, .ref (ad 175)), (17, .ref (ad 176)), (18, .ref (ad 177)), (19, .ref (ad 178)), (20, .int x20n9), (21, .int x21n9)] → rec221 (σ9, x20n9, x21n9) = some res → W p l e room_1 s m args below meth c H locs kc ns (lw_Z below args s) (F0 m 221 ls [])) (hkc : kc ≤ 183 + 643 * x21.toInt.toNat + 0) (hns : ns ≤ 3391 + 81814 * x21.toInt.toNat + 0) (hi0 : 0 ≤ x21.toInt) (hi8 : x21.toInt < 80) {H : Heap} {locs : List Loc} {ls : Array Slot} (hY : gY D y A s L ad σ H locs) (hl : lv_has ls 37 [(0, .ref b), (1, .ref (ad 0)), (2, .ref (ad 161)), (3, .ref (ad 162)), (4, .ref (ad 163)), (5, .ref (ad 164)), (6, .ref (ad 165)), (7, .ref (ad 166)), (8, .ref (ad 167)), (9, .ref (ad 168)), (10, .ref (ad 169)), (11, .ref (ad 170)), (12, .ref (ad 171)), (13, .ref (ad 172)), (14, .ref (ad 173)), (15, .ref (ad 174)), (16, .ref (ad 175)), (17, .ref (ad 176)), (18, .ref (ad 177)), (19, .ref (ad 178)), (20, .int x20), (21, .int x21), (24, .int x24)]) (h : fL_law_1299 N xs Lx rec221 σ x20 x21 x24 = some res) : W p l e room_1 s m args below meth c H locs kc ns (lw_Z below args s) (F0 m 1299 ls []) := by
  unfold fL_law_1299 at h
  refine lv_goto (tgt := 2698) hx hb dL_law_1299 (by decide) ?_
  exact wL_law_2698 hx hb hr hml hown hg hlocks hK hA hL hfl hZ hX hbl hA2 hres hL2 hrec221 (by first | omega | (simp only [g_l0]; omega)) (by first | omega | (simp only [g_l0]; omega)) (by first | omega | (simp only [g_l0]; omega)) (by first | omega | (simp only [g_l0]; omega)) hY (lv_sub hl [0, 1, 2, 3, 4, 5, 6, 7, 8, 9, 10, 11, 12, 13, 14, 15, 16, 17, 18, 19, 20, 21, 22] rfl) h
def fL_law_1285 (N : Nat) (xs : Nat → Int32) (Lx : Nat) (rec221 : (gS × Int32 × Int32) → Option Int32) (σ : gS) (x21 : Int32) (x24 : Int32) (x28 : Int32) (xs0 : Int32) : Option Int32 := (fL_reopens N σ x28).bind fun r_1 => fL_law_1299 N xs Lx rec221 r_1 xs0 x21 x24
set_option maxRecDepth 100000 in
set_option maxHeartbeats 1000000 in
theorem wL_law_1285 {rec221 : (gS × Int32 × Int32) → Option Int32} {σ : gS} {x21 : Int32} {x24 : Int32} {x28 : Int32} {xs0 : Int32} {ad : Nat → Nat} {kc ns : Nat} (hx : p.tables.exec = Jvm.exec) (hb : c.code = cL_law) (hr : meth.sig.returnType = (some .boolean)) (hml : c.maxLocals = 37) (hown : s.vm.findClass RL = some m.cls) (hg : ∀ w ∈ wsL_law, w.before args s = true) (hlocks : meth.locks = false) (hK : gK D y aS s) (hA : ∀ q, s.heap.size ≤ q → A q) (hL : ∀ k, k < 179 → k ∈ L) (hfl : l.stackTraces = false) (hZ : gZ A s s.heap) (hX : va_X b Lx xs s s.heap) (hbl : b < s.heap.size) (hA2 : ∀ q, A q → s.heap.size ≤ q) (hres : res = 1) (hL2 : ∀ k ∈ L, k < 179) (hrec221 : ∀ {ad : Nat → Nat} {kc ns : Nat} {σ9 : gS} {x20n9 : Int32} {x21n9 : Int32} (hkc : kc ≤ 183 + 643 * x21n9.toInt.toNat + 0) (hns : ns ≤ 3391 + 81814 * x21n9.toInt.toNat + 0) (hi0 : 0 ≤ x21n9.toInt) (hi8 : x21n9.toInt ≤ 80) (H : Heap) (locs : List Loc) (ls : Array Slot), gY D y A s L ad σ9 H locs → lv_has ls 37 [(0, .ref b), (1, .ref (ad 0)), (2, .ref (ad 161)), (3, .ref (ad 162)), (4, .ref (ad 163)), (5, .ref (ad 164)), (6, .ref (ad 165)), (7, .ref (ad 166)), (8, .ref (ad 167)), (9, .ref (ad 168)), (10, .ref (ad 169)), (11, .ref (ad 170)), (12, .ref (ad 171)), (13, .ref (ad 172)), (14, .ref (ad 173)), (15, .ref (ad 174)), (16, .ref (ad 175)), (17, .ref (ad 176)), (18, .ref (ad 177)), (19, .ref (ad 178)), (20, .int x20n9), (21, .int x21n9)] → rec221 (σ9, x20n9, x21n9) = some res → W p l e room_1 s m args below meth c H locs kc ns (lw_Z below args s) (F0 m 221 ls [])) (hkc : kc ≤ 183 + 643 * x21.toInt.toNat + 0) (hns : ns ≤ 3391 + 81814 * x21.toInt.toNat + 0) (hi0 : 0 ≤ x21.toInt) (hi8 : x21.toInt < 80) {H : Heap} {locs : List Loc} {ls : Array Slot} (hY : gY D y A s L ad σ H locs) (hl : lv_has ls 37 [(0, .ref b), (1, .ref (ad 0)), (2, .ref (ad 161)), (3, .ref (ad 162)), (4, .ref (ad 163)), (5, .ref (ad 164)), (6, .ref (ad 165)), (7, .ref (ad 166)), (8, .ref (ad 167)), (9, .ref (ad 168)), (10, .ref (ad 169)), (11, .ref (ad 170)), (12, .ref (ad 171)), (13, .ref (ad 172)), (14, .ref (ad 173)), (15, .ref (ad 174)), (16, .ref (ad 175)), (17, .ref (ad 176)), (18, .ref (ad 177)), (19, .ref (ad 178)), (21, .int x21), (24, .int x24), (28, .int x28)]) (h : fL_law_1285 N xs Lx rec221 σ x21 x24 x28 xs0 = some res) : W p l e room_1 s m args below meth c H locs kc ns (lw_Z below args s) (F0 m 1285 ls [.int xs0]) := by
  unfold fL_law_1285 at h
  refine lv_istore (lv' := [(20, .int xs0), (0, .ref b), (1, .ref (ad 0)), (2, .ref (ad 161)), (3, .ref (ad 162)), (4, .ref (ad 163)), (5, .ref (ad 164)), (6, .ref (ad 165)), (7, .ref (ad 166)), (8, .ref (ad 167)), (9, .ref (ad 168)), (10, .ref (ad 169)), (11, .ref (ad 170)), (12, .ref (ad 171)), (13, .ref (ad 172)), (14, .ref (ad 173)), (15, .ref (ad 174)), (16, .ref (ad 175)), (17, .ref (ad 176)), (18, .ref (ad 177)), (19, .ref (ad 178)), (21, .int x21), (24, .int x24), (28, .int x28)]) hx hb dL_law_1285 hl (by decide) rfl ?_
  clear hl
  intro ls hl
  refine lv_aload_n hx hb dL_law_1287 rfl (lv_at hl 3 rfl) ?_
  refine lv_aload hx hb dL_law_1288 (lv_at hl 16 rfl) ?_
  refine lv_aload hx hb dL_law_1290 (lv_at hl 17 rfl) ?_
  refine lv_aload hx hb dL_law_1292 (lv_at hl 18 rfl) ?_
  refine lv_iload hx hb dL_law_1294 (lv_at hl 23 rfl) ?_
  obtain ⟨r_1, e_2, h⟩ := g_bind h
  refine G_av hY hA (va_runS (As := [.ref (ad 161), .ref (ad 174), .ref (ad 175), .ref (ad 176), .int x28]) (rest := []) ⟨hx, hb, hml, hown, hg⟩ (kL_reopens l D y aS H.size L hL ad N σ x28 _ e_2) (va_cwS 5 hg ggS_RL_217_L_reopens rfl rfl rfl (by decide +kernel) ⟨Nat.le_of_ble_eq_true rfl, Nat.le_of_ble_eq_true rfl⟩) (G_pS hK hY) rfl rfl hl.1 rfl (lv_room (Nat.le_of_ble_eq_true rfl)) dL_law_1296 ⟨(by first | omega | (show _ ≤ (600086 : Nat); omega) | (show _ ≤ (7301442 : Nat); omega)), (by first | omega | (show _ ≤ (600086 : Nat); omega) | (show _ ≤ (7301442 : Nat); omega))⟩) ?_
  clear hY
  rintro H locs hY
  exact wL_law_1299 hx hb hr hml hown hg hlocks hK hA hL hfl hZ hX hbl hA2 hres hL2 hrec221 (by first | omega | (simp only [g_l0]; omega)) (by first | omega | (simp only [g_l0]; omega)) (by first | omega | (simp only [g_l0]; omega)) (by first | omega | (simp only [g_l0]; omega)) hY (lv_sub hl [1, 2, 3, 4, 5, 6, 7, 8, 9, 10, 11, 12, 13, 14, 15, 16, 17, 18, 19, 20, 0, 21, 22] rfl) h
def fL_law_1162 (N : Nat) (xs : Nat → Int32) (Lx : Nat) (rec221 : (gS × Int32 × Int32) → Option Int32) (σ : gS) (x20 : Int32) (x21 : Int32) (x24 : Int32) (x28 : Int32) (x29 : Int32) (x30 : Int32) (xs0 : Int32) : Option Int32 := if xs0 = 0 then (fL_law_1299 N xs Lx rec221 σ x20 x21 x24) else (if ((12 * x28) + 4) < 0 ∨ 48 ≤ ((12 * x28) + 4).toNatClampNeg then none else (if (((12 * x28) + 7) + (σ.1 172 (((12 * x28) + 4).toNatClampNeg))) < 0 ∨ 48 ≤ (((12 * x28) + 7) + (σ.1 172 (((12 * x28) + 4).toNatClampNeg))).toNatClampNeg then none else (if ((12 * x28) + 4) < 0 ∨ 48 ≤ ((12 * x28) + 4).toNatClampNeg then none else (if ((12 * x28) + 4) < 0 ∨ 48 ≤ ((12 * x28) + 4).toNatClampNeg then none else ((fX11_breaks N (sI (sI σ 172 ((((12 * x28) + 7) + (σ.1 172 (((12 * x28) + 4).toNatClampNeg))).toNatClampNeg) (((x29 + (16 * ((x24 / 64) - (x24 / 64) / 10 * 10))) + (256 * x30)) + (4096 * ((x24 / 640) - (x24 / 640) / 10 * 10)))) 172 (((12 * x28) + 4).toNatClampNeg) (((sI σ 172 ((((12 * x28) + 7) + (σ.1 172 (((12 * x28) + 4).toNatClampNeg))).toNatClampNeg) (((x29 + (16 * ((x24 / 64) - (x24 / 64) / 10 * 10))) + (256 * x30)) + (4096 * ((x24 / 640) - (x24 / 640) / 10 * 10)))).1 172 (((12 * x28) + 4).toNatClampNeg)) + 1)) x28 x29 ((x24 / 64) - (x24 / 64) / 10 * 10) x30 ((x24 / 640) - (x24 / 640) / 10 * 10)).bind fun r_6 => if ((12 * x28) + 4) < 0 ∨ 48 ≤ ((12 * x28) + 4).toNatClampNeg then none else (if r_6.1 = (r_6.2.1 172 (((12 * x28) + 4).toNatClampNeg)) then (fL_law_1285 N xs Lx rec221 r_6.2 x21 x24 x28 1) else (fL_law_1285 N xs Lx rec221 r_6.2 x21 x24 x28 0)))))))
set_option maxRecDepth 100000 in
set_option maxHeartbeats 1000000 in
theorem wL_law_1162 {rec221 : (gS × Int32 × Int32) → Option Int32} {σ : gS} {x20 : Int32} {x21 : Int32} {x24 : Int32} {x28 : Int32} {x29 : Int32} {x30 : Int32} {xs0 : Int32} {ad : Nat → Nat} {kc ns : Nat} (hx : p.tables.exec = Jvm.exec) (hb : c.code = cL_law) (hr : meth.sig.returnType = (some .boolean)) (hml : c.maxLocals = 37) (hown : s.vm.findClass RL = some m.cls) (hg : ∀ w ∈ wsL_law, w.before args s = true) (hlocks : meth.locks = false) (hK : gK D y aS s) (hA : ∀ q, s.heap.size ≤ q → A q) (hL : ∀ k, k < 179 → k ∈ L) (hfl : l.stackTraces = false) (hZ : gZ A s s.heap) (hX : va_X b Lx xs s s.heap) (hbl : b < s.heap.size) (hA2 : ∀ q, A q → s.heap.size ≤ q) (hres : res = 1) (hL2 : ∀ k ∈ L, k < 179) (hrec221 : ∀ {ad : Nat → Nat} {kc ns : Nat} {σ9 : gS} {x20n9 : Int32} {x21n9 : Int32} (hkc : kc ≤ 183 + 643 * x21n9.toInt.toNat + 0) (hns : ns ≤ 3391 + 81814 * x21n9.toInt.toNat + 0) (hi0 : 0 ≤ x21n9.toInt) (hi8 : x21n9.toInt ≤ 80) (H : Heap) (locs : List Loc) (ls : Array Slot), gY D y A s L ad σ9 H locs → lv_has ls 37 [(0, .ref b), (1, .ref (ad 0)), (2, .ref (ad 161)), (3, .ref (ad 162)), (4, .ref (ad 163)), (5, .ref (ad 164)), (6, .ref (ad 165)), (7, .ref (ad 166)), (8, .ref (ad 167)), (9, .ref (ad 168)), (10, .ref (ad 169)), (11, .ref (ad 170)), (12, .ref (ad 171)), (13, .ref (ad 172)), (14, .ref (ad 173)), (15, .ref (ad 174)), (16, .ref (ad 175)), (17, .ref (ad 176)), (18, .ref (ad 177)), (19, .ref (ad 178)), (20, .int x20n9), (21, .int x21n9)] → rec221 (σ9, x20n9, x21n9) = some res → W p l e room_1 s m args below meth c H locs kc ns (lw_Z below args s) (F0 m 221 ls [])) (hkc : kc ≤ 183 + 643 * x21.toInt.toNat + 0) (hns : ns ≤ 3391 + 81814 * x21.toInt.toNat + 0) (hi0 : 0 ≤ x21.toInt) (hi8 : x21.toInt < 80) {H : Heap} {locs : List Loc} {ls : Array Slot} (hY : gY D y A s L ad σ H locs) (hl : lv_has ls 37 [(0, .ref b), (1, .ref (ad 0)), (2, .ref (ad 161)), (3, .ref (ad 162)), (4, .ref (ad 163)), (5, .ref (ad 164)), (6, .ref (ad 165)), (7, .ref (ad 166)), (8, .ref (ad 167)), (9, .ref (ad 168)), (10, .ref (ad 169)), (11, .ref (ad 170)), (12, .ref (ad 171)), (13, .ref (ad 172)), (14, .ref (ad 173)), (15, .ref (ad 174)), (16, .ref (ad 175)), (17, .ref (ad 176)), (18, .ref (ad 177)), (19, .ref (ad 178)), (20, .int x20), (21, .int x21), (24, .int x24), (28, .int x28), (29, .int x29), (30, .int x30)]) (h : fL_law_1162 N xs Lx rec221 σ x20 x21 x24 x28 x29 x30 xs0 = some res) : W p l e room_1 s m args below meth c H locs kc ns (lw_Z below args s) (F0 m 1162 ls [.int xs0]) := by
  unfold fL_law_1162 at h
  refine lv_istore (lv' := [(31, .int xs0), (0, .ref b), (1, .ref (ad 0)), (2, .ref (ad 161)), (3, .ref (ad 162)), (4, .ref (ad 163)), (5, .ref (ad 164)), (6, .ref (ad 165)), (7, .ref (ad 166)), (8, .ref (ad 167)), (9, .ref (ad 168)), (10, .ref (ad 169)), (11, .ref (ad 170)), (12, .ref (ad 171)), (13, .ref (ad 172)), (14, .ref (ad 173)), (15, .ref (ad 174)), (16, .ref (ad 175)), (17, .ref (ad 176)), (18, .ref (ad 177)), (19, .ref (ad 178)), (20, .int x20), (21, .int x21), (24, .int x24), (28, .int x28), (29, .int x29), (30, .int x30)]) hx hb dL_law_1162 hl (by decide) rfl ?_
  clear hl
  intro ls hl
  refine lv_iload hx hb dL_law_1164 (lv_at hl 0 rfl) ?_
  refine lv_if_eq (tgt := 1299) hx hb dL_law_1166 (by decide) (fun z_1 => ?_) (fun z_1 => ?_)
  ·
    rw [if_pos z_1] at h
    exact wL_law_1299 hx hb hr hml hown hg hlocks hK hA hL hfl hZ hX hbl hA2 hres hL2 hrec221 (by first | omega | (simp only [g_l0]; omega)) (by first | omega | (simp only [g_l0]; omega)) (by first | omega | (simp only [g_l0]; omega)) (by first | omega | (simp only [g_l0]; omega)) hY (lv_sub hl [1, 2, 3, 4, 5, 6, 7, 8, 9, 10, 11, 12, 13, 14, 15, 16, 17, 18, 19, 20, 21, 22, 23] rfl) h
  ·
    rw [if_neg z_1] at h
    refine lv_aload hx hb dL_law_1169 (lv_at hl 14 rfl) ?_
    refine lv_bipush (v := 12) hx hb dL_law_1171 (by decide +kernel) ?_
    refine lv_iload hx hb dL_law_1173 (lv_at hl 24 rfl) ?_
    refine lv_imul hx hb dL_law_1175 ?_
    refine lv_bipush (v := 7) hx hb dL_law_1176 (by decide +kernel) ?_
    refine lv_iadd hx hb dL_law_1178 ?_
    refine lv_aload hx hb dL_law_1179 (lv_at hl 14 rfl) ?_
    refine lv_bipush (v := 12) hx hb dL_law_1181 (by decide +kernel) ?_
    refine lv_iload hx hb dL_law_1183 (lv_at hl 24 rfl) ?_
    refine lv_imul hx hb dL_law_1185 ?_
    refine lv_iconst (v := 4) hx hb dL_law_1186 (by decide) ?_
    refine lv_iadd hx hb dL_law_1187 ?_
    obtain ⟨z_2, h⟩ := g_guard h
    refine G_iald (j := ((12 * x28) + 4).toNatClampNeg) hx hb hK hY (hL 172 (by decide)) gk_172 (by rw [gl_172]; exact z_2) rfl dL_law_1188 ?_
    refine lv_iadd hx hb dL_law_1189 ?_
    refine lv_iload hx hb dL_law_1190 (lv_at hl 25 rfl) ?_
    refine lv_bipush (v := 16) hx hb dL_law_1192 (by decide +kernel) ?_
    refine lv_iload hx hb dL_law_1194 (lv_at hl 23 rfl) ?_
    refine lv_bipush (v := 64) hx hb dL_law_1196 (by decide +kernel) ?_
    refine lv_idiv hx hb dL_law_1198 (by decide +kernel) ?_
    refine lv_bipush (v := 10) hx hb dL_law_1199 (by decide +kernel) ?_
    refine lv_irem hx hb dL_law_1201 (by decide +kernel) ?_
    refine lv_imul hx hb dL_law_1202 ?_
    refine lv_iadd hx hb dL_law_1203 ?_
    refine lv_sipush (v := 256) hx hb dL_law_1204 (by decide +kernel) ?_
    refine lv_iload hx hb dL_law_1207 (lv_at hl 26 rfl) ?_
    refine lv_imul hx hb dL_law_1209 ?_
    refine lv_iadd hx hb dL_law_1210 ?_
    refine lv_sipush (v := 4096) hx hb dL_law_1211 (by decide +kernel) ?_
    refine lv_iload hx hb dL_law_1214 (lv_at hl 23 rfl) ?_
    refine lv_sipush (v := 640) hx hb dL_law_1216 (by decide +kernel) ?_
    refine lv_idiv hx hb dL_law_1219 (by decide +kernel) ?_
    refine lv_bipush (v := 10) hx hb dL_law_1220 (by decide +kernel) ?_
    refine lv_irem hx hb dL_law_1222 (by decide +kernel) ?_
    refine lv_imul hx hb dL_law_1223 ?_
    refine lv_iadd hx hb dL_law_1224 ?_
    obtain ⟨z_3, h⟩ := g_guard h
    refine G_iast (j := (((12 * x28) + 7) + (σ.1 172 (((12 * x28) + 4).toNatClampNeg))).toNatClampNeg) hx hb hK hY (hL 172 (by decide)) gk_172 (by rw [gl_172]; exact z_3) rfl dL_law_1225 ?_
    clear hY
    intro H locs hY
    refine lv_aload hx hb dL_law_1226 (lv_at hl 14 rfl) ?_
    refine lv_bipush (v := 12) hx hb dL_law_1228 (by decide +kernel) ?_
    refine lv_iload hx hb dL_law_1230 (lv_at hl 24 rfl) ?_
    refine lv_imul hx hb dL_law_1232 ?_
    refine lv_iconst (v := 4) hx hb dL_law_1233 (by decide) ?_
    refine lv_iadd hx hb dL_law_1234 ?_
    refine lv_dup2_11 hx hb dL_law_1235 rfl rfl ?_
    obtain ⟨z_4, h⟩ := g_guard h
    refine G_iald (j := ((12 * x28) + 4).toNatClampNeg) hx hb hK hY (hL 172 (by decide)) gk_172 (by rw [gl_172]; exact z_4) rfl dL_law_1236 ?_
    refine lv_iconst (v := 1) hx hb dL_law_1237 (by decide) ?_
    refine lv_iadd hx hb dL_law_1238 ?_
    obtain ⟨z_5, h⟩ := g_guard h
    refine G_iast (j := ((12 * x28) + 4).toNatClampNeg) hx hb hK hY (hL 172 (by decide)) gk_172 (by rw [gl_172]; exact z_5) rfl dL_law_1239 ?_
    clear hY
    intro H locs hY
    refine lv_aload_n hx hb dL_law_1240 rfl (lv_at hl 2 rfl) ?_
    refine lv_iload hx hb dL_law_1241 (lv_at hl 24 rfl) ?_
    refine lv_iload hx hb dL_law_1243 (lv_at hl 25 rfl) ?_
    refine lv_iload hx hb dL_law_1245 (lv_at hl 23 rfl) ?_
    refine lv_bipush (v := 64) hx hb dL_law_1247 (by decide +kernel) ?_
    refine lv_idiv hx hb dL_law_1249 (by decide +kernel) ?_
    refine lv_bipush (v := 10) hx hb dL_law_1250 (by decide +kernel) ?_
    refine lv_irem hx hb dL_law_1252 (by decide +kernel) ?_
    refine lv_iload hx hb dL_law_1253 (lv_at hl 26 rfl) ?_
    refine lv_iload hx hb dL_law_1255 (lv_at hl 23 rfl) ?_
    refine lv_sipush (v := 640) hx hb dL_law_1257 (by decide +kernel) ?_
    refine lv_idiv hx hb dL_law_1260 (by decide +kernel) ?_
    refine lv_bipush (v := 10) hx hb dL_law_1261 (by decide +kernel) ?_
    refine lv_irem hx hb dL_law_1263 (by decide +kernel) ?_
    obtain ⟨r_6, e_7, h⟩ := g_bind h
    refine G_ai hY hA (va_runV (As := [.int x28, .int x29, .int ((x24 / 64) - (x24 / 64) / 10 * 10), .int x30, .int ((x24 / 640) - (x24 / 640) / 10 * 10)]) (rest := []) ⟨hx, hb, hml, hown, hg⟩ (kX11_breaks l D y aS H.size L hL ad N (sI (sI σ 172 ((((12 * x28) + 7) + (σ.1 172 (((12 * x28) + 4).toNatClampNeg))).toNatClampNeg) (((x29 + (16 * ((x24 / 64) - (x24 / 64) / 10 * 10))) + (256 * x30)) + (4096 * ((x24 / 640) - (x24 / 640) / 10 * 10)))) 172 (((12 * x28) + 4).toNatClampNeg) (((sI σ 172 ((((12 * x28) + 7) + (σ.1 172 (((12 * x28) + 4).toNatClampNeg))).toNatClampNeg) (((x29 + (16 * ((x24 / 64) - (x24 / 64) / 10 * 10))) + (256 * x30)) + (4096 * ((x24 / 640) - (x24 / 640) / 10 * 10)))).1 172 (((12 * x28) + 4).toNatClampNeg)) + 1)) x28 x29 ((x24 / 64) - (x24 / 64) / 10 * 10) x30 ((x24 / 640) - (x24 / 640) / 10 * 10) _ e_7) (cwV 5 hg ggV_RL_213_X11_breaks rfl rfl rfl (by decide +kernel) ⟨Nat.le_of_ble_eq_true rfl, Nat.le_of_ble_eq_true rfl⟩) (G_pV (q := (RX11, TX11, 19)) hK hY (hL 0 (by decide)) gk_0 (by decide) rfl) rfl rfl hl.1 rfl (lv_room (Nat.le_of_ble_eq_true rfl)) dL_law_1264 ⟨(by first | omega | (show _ ≤ (600086 : Nat); omega) | (show _ ≤ (7301442 : Nat); omega)), (by first | omega | (show _ ≤ (600086 : Nat); omega) | (show _ ≤ (7301442 : Nat); omega))⟩) ?_
    clear hY
    rintro _ H locs rfl hY
    refine lv_aload hx hb dL_law_1267 (lv_at hl 14 rfl) ?_
    refine lv_bipush (v := 12) hx hb dL_law_1269 (by decide +kernel) ?_
    refine lv_iload hx hb dL_law_1271 (lv_at hl 24 rfl) ?_
    refine lv_imul hx hb dL_law_1273 ?_
    refine lv_iconst (v := 4) hx hb dL_law_1274 (by decide) ?_
    refine lv_iadd hx hb dL_law_1275 ?_
    obtain ⟨z_8, h⟩ := g_guard h
    refine G_iald (j := ((12 * x28) + 4).toNatClampNeg) hx hb hK hY (hL 172 (by decide)) gk_172 (by rw [gl_172]; exact z_8) rfl dL_law_1276 ?_
    refine lv_icmp_ne (tgt := 1284) hx hb dL_law_1277 (by decide) (fun z_9 => ?_) (fun z_9 => ?_)
    ·
      rw [if_neg z_9] at h
      refine lv_iconst (v := 0) hx hb dL_law_1284 (by decide) ?_
      exact wL_law_1285 hx hb hr hml hown hg hlocks hK hA hL hfl hZ hX hbl hA2 hres hL2 hrec221 (by first | omega | (simp only [g_l0]; omega)) (by first | omega | (simp only [g_l0]; omega)) (by first | omega | (simp only [g_l0]; omega)) (by first | omega | (simp only [g_l0]; omega)) hY (lv_sub hl [1, 2, 3, 4, 5, 6, 7, 8, 9, 10, 11, 12, 13, 14, 15, 16, 17, 18, 19, 20, 22, 23, 24] rfl) h
    ·
      rw [if_pos z_9] at h
      refine lv_iconst (v := 1) hx hb dL_law_1280 (by decide) ?_
      refine lv_goto (tgt := 1285) hx hb dL_law_1281 (by decide) ?_
      exact wL_law_1285 hx hb hr hml hown hg hlocks hK hA hL hfl hZ hX hbl hA2 hres hL2 hrec221 (by first | omega | (simp only [g_l0]; omega)) (by first | omega | (simp only [g_l0]; omega)) (by first | omega | (simp only [g_l0]; omega)) (by first | omega | (simp only [g_l0]; omega)) hY (lv_sub hl [1, 2, 3, 4, 5, 6, 7, 8, 9, 10, 11, 12, 13, 14, 15, 16, 17, 18, 19, 20, 22, 23, 24] rfl) h
def fL_law_1161 (N : Nat) (xs : Nat → Int32) (Lx : Nat) (rec221 : (gS × Int32 × Int32) → Option Int32) (σ : gS) (x20 : Int32) (x21 : Int32) (x24 : Int32) (x28 : Int32) (x29 : Int32) (x30 : Int32) : Option Int32 := fL_law_1162 N xs Lx rec221 σ x20 x21 x24 x28 x29 x30 0
set_option maxRecDepth 100000 in
set_option maxHeartbeats 1000000 in
theorem wL_law_1161 {rec221 : (gS × Int32 × Int32) → Option Int32} {σ : gS} {x20 : Int32} {x21 : Int32} {x24 : Int32} {x28 : Int32} {x29 : Int32} {x30 : Int32} {ad : Nat → Nat} {kc ns : Nat} (hx : p.tables.exec = Jvm.exec) (hb : c.code = cL_law) (hr : meth.sig.returnType = (some .boolean)) (hml : c.maxLocals = 37) (hown : s.vm.findClass RL = some m.cls) (hg : ∀ w ∈ wsL_law, w.before args s = true) (hlocks : meth.locks = false) (hK : gK D y aS s) (hA : ∀ q, s.heap.size ≤ q → A q) (hL : ∀ k, k < 179 → k ∈ L) (hfl : l.stackTraces = false) (hZ : gZ A s s.heap) (hX : va_X b Lx xs s s.heap) (hbl : b < s.heap.size) (hA2 : ∀ q, A q → s.heap.size ≤ q) (hres : res = 1) (hL2 : ∀ k ∈ L, k < 179) (hrec221 : ∀ {ad : Nat → Nat} {kc ns : Nat} {σ9 : gS} {x20n9 : Int32} {x21n9 : Int32} (hkc : kc ≤ 183 + 643 * x21n9.toInt.toNat + 0) (hns : ns ≤ 3391 + 81814 * x21n9.toInt.toNat + 0) (hi0 : 0 ≤ x21n9.toInt) (hi8 : x21n9.toInt ≤ 80) (H : Heap) (locs : List Loc) (ls : Array Slot), gY D y A s L ad σ9 H locs → lv_has ls 37 [(0, .ref b), (1, .ref (ad 0)), (2, .ref (ad 161)), (3, .ref (ad 162)), (4, .ref (ad 163)), (5, .ref (ad 164)), (6, .ref (ad 165)), (7, .ref (ad 166)), (8, .ref (ad 167)), (9, .ref (ad 168)), (10, .ref (ad 169)), (11, .ref (ad 170)), (12, .ref (ad 171)), (13, .ref (ad 172)), (14, .ref (ad 173)), (15, .ref (ad 174)), (16, .ref (ad 175)), (17, .ref (ad 176)), (18, .ref (ad 177)), (19, .ref (ad 178)), (20, .int x20n9), (21, .int x21n9)] → rec221 (σ9, x20n9, x21n9) = some res → W p l e room_1 s m args below meth c H locs kc ns (lw_Z below args s) (F0 m 221 ls [])) (hkc : kc ≤ 183 + 643 * x21.toInt.toNat + 0) (hns : ns ≤ 3391 + 81814 * x21.toInt.toNat + 0) (hi0 : 0 ≤ x21.toInt) (hi8 : x21.toInt < 80) {H : Heap} {locs : List Loc} {ls : Array Slot} (hY : gY D y A s L ad σ H locs) (hl : lv_has ls 37 [(0, .ref b), (1, .ref (ad 0)), (2, .ref (ad 161)), (3, .ref (ad 162)), (4, .ref (ad 163)), (5, .ref (ad 164)), (6, .ref (ad 165)), (7, .ref (ad 166)), (8, .ref (ad 167)), (9, .ref (ad 168)), (10, .ref (ad 169)), (11, .ref (ad 170)), (12, .ref (ad 171)), (13, .ref (ad 172)), (14, .ref (ad 173)), (15, .ref (ad 174)), (16, .ref (ad 175)), (17, .ref (ad 176)), (18, .ref (ad 177)), (19, .ref (ad 178)), (20, .int x20), (21, .int x21), (24, .int x24), (28, .int x28), (29, .int x29), (30, .int x30)]) (h : fL_law_1161 N xs Lx rec221 σ x20 x21 x24 x28 x29 x30 = some res) : W p l e room_1 s m args below meth c H locs kc ns (lw_Z below args s) (F0 m 1161 ls []) := by
  unfold fL_law_1161 at h
  refine lv_iconst (v := 0) hx hb dL_law_1161 (by decide) ?_
  exact wL_law_1162 hx hb hr hml hown hg hlocks hK hA hL hfl hZ hX hbl hA2 hres hL2 hrec221 (by first | omega | (simp only [g_l0]; omega)) (by first | omega | (simp only [g_l0]; omega)) (by first | omega | (simp only [g_l0]; omega)) (by first | omega | (simp only [g_l0]; omega)) hY (lv_sub hl [0, 1, 2, 3, 4, 5, 6, 7, 8, 9, 10, 11, 12, 13, 14, 15, 16, 17, 18, 19, 20, 21, 22, 23, 24, 25] rfl) h
def fL_law_1071 (N : Nat) (xs : Nat → Int32) (Lx : Nat) (rec221 : (gS × Int32 × Int32) → Option Int32) (σ : gS) (x20 : Int32) (x21 : Int32) (x23 : Int32) (x24 : Int32) (x25 : Int64) (x27 : Int32) : Option Int32 := if 13 ≤ x23 then (fL_law_1302 N xs Lx rec221 σ x21 x23 x24 x25 x27) else (if (σ.1 161 2) ≤ 0 then (fL_law_1302 N xs Lx rec221 σ x21 x23 x24 x25 x27) else (if (σ.1 161 2) = 0 then none else (if (12 * (x24 - x24 / (σ.1 161 2) * (σ.1 161 2))) < 0 ∨ 48 ≤ (12 * (x24 - x24 / (σ.1 161 2) * (σ.1 161 2))).toNatClampNeg then none else (if (((σ.1 172 ((12 * (x24 - x24 / (σ.1 161 2) * (σ.1 161 2))).toNatClampNeg)) >>> (((x24 / 4) - (x24 / 4) / 4 * 4) &&& 31)) &&& 1) = 1 then (if (12 * (x24 - x24 / (σ.1 161 2) * (σ.1 161 2))) < 0 ∨ 48 ≤ (12 * (x24 - x24 / (σ.1 161 2) * (σ.1 161 2))).toNatClampNeg then none else (if (((σ.1 172 ((12 * (x24 - x24 / (σ.1 161 2) * (σ.1 161 2))).toNatClampNeg)) >>> (((x24 / 16) - (x24 / 16) / 4 * 4) &&& 31)) &&& 1) = 1 then (if ((12 * (x24 - x24 / (σ.1 161 2) * (σ.1 161 2))) + 4) < 0 ∨ 48 ≤ ((12 * (x24 - x24 / (σ.1 161 2) * (σ.1 161 2))) + 4).toNatClampNeg then none else (if 5 ≤ (σ.1 172 (((12 * (x24 - x24 / (σ.1 161 2) * (σ.1 161 2))) + 4).toNatClampNeg)) then (fL_law_1161 N xs Lx rec221 σ x20 x21 x24 (x24 - x24 / (σ.1 161 2) * (σ.1 161 2)) ((x24 / 4) - (x24 / 4) / 4 * 4) ((x24 / 16) - (x24 / 16) / 4 * 4)) else (fL_law_1162 N xs Lx rec221 σ x20 x21 x24 (x24 - x24 / (σ.1 161 2) * (σ.1 161 2)) ((x24 / 4) - (x24 / 4) / 4 * 4) ((x24 / 16) - (x24 / 16) / 4 * 4) 1))) else (fL_law_1161 N xs Lx rec221 σ x20 x21 x24 (x24 - x24 / (σ.1 161 2) * (σ.1 161 2)) ((x24 / 4) - (x24 / 4) / 4 * 4) ((x24 / 16) - (x24 / 16) / 4 * 4)))) else (fL_law_1161 N xs Lx rec221 σ x20 x21 x24 (x24 - x24 / (σ.1 161 2) * (σ.1 161 2)) ((x24 / 4) - (x24 / 4) / 4 * 4) ((x24 / 16) - (x24 / 16) / 4 * 4))))))
set_option maxRecDepth 100000 in
set_option maxHeartbeats 1000000 in
theorem wL_law_1071 {rec221 : (gS × Int32 × Int32) → Option Int32} {σ : gS} {x20 : Int32} {x21 : Int32} {x23 : Int32} {x24 : Int32} {x25 : Int64} {x27 : Int32} {ad : Nat → Nat} {kc ns : Nat} (hx : p.tables.exec = Jvm.exec) (hb : c.code = cL_law) (hr : meth.sig.returnType = (some .boolean)) (hml : c.maxLocals = 37) (hown : s.vm.findClass RL = some m.cls) (hg : ∀ w ∈ wsL_law, w.before args s = true) (hlocks : meth.locks = false) (hK : gK D y aS s) (hA : ∀ q, s.heap.size ≤ q → A q) (hL : ∀ k, k < 179 → k ∈ L) (hfl : l.stackTraces = false) (hZ : gZ A s s.heap) (hX : va_X b Lx xs s s.heap) (hbl : b < s.heap.size) (hA2 : ∀ q, A q → s.heap.size ≤ q) (hres : res = 1) (hL2 : ∀ k ∈ L, k < 179) (hrec221 : ∀ {ad : Nat → Nat} {kc ns : Nat} {σ9 : gS} {x20n9 : Int32} {x21n9 : Int32} (hkc : kc ≤ 183 + 643 * x21n9.toInt.toNat + 0) (hns : ns ≤ 3391 + 81814 * x21n9.toInt.toNat + 0) (hi0 : 0 ≤ x21n9.toInt) (hi8 : x21n9.toInt ≤ 80) (H : Heap) (locs : List Loc) (ls : Array Slot), gY D y A s L ad σ9 H locs → lv_has ls 37 [(0, .ref b), (1, .ref (ad 0)), (2, .ref (ad 161)), (3, .ref (ad 162)), (4, .ref (ad 163)), (5, .ref (ad 164)), (6, .ref (ad 165)), (7, .ref (ad 166)), (8, .ref (ad 167)), (9, .ref (ad 168)), (10, .ref (ad 169)), (11, .ref (ad 170)), (12, .ref (ad 171)), (13, .ref (ad 172)), (14, .ref (ad 173)), (15, .ref (ad 174)), (16, .ref (ad 175)), (17, .ref (ad 176)), (18, .ref (ad 177)), (19, .ref (ad 178)), (20, .int x20n9), (21, .int x21n9)] → rec221 (σ9, x20n9, x21n9) = some res → W p l e room_1 s m args below meth c H locs kc ns (lw_Z below args s) (F0 m 221 ls [])) (hkc : kc ≤ 183 + 643 * x21.toInt.toNat + 0) (hns : ns ≤ 3391 + 81814 * x21.toInt.toNat + 0) (hi0 : 0 ≤ x21.toInt) (hi8 : x21.toInt < 80) {H : Heap} {locs : List Loc} {ls : Array Slot} (hY : gY D y A s L ad σ H locs) (hl : lv_has ls 37 [(0, .ref b), (1, .ref (ad 0)), (2, .ref (ad 161)), (3, .ref (ad 162)), (4, .ref (ad 163)), (5, .ref (ad 164)), (6, .ref (ad 165)), (7, .ref (ad 166)), (8, .ref (ad 167)), (9, .ref (ad 168)), (10, .ref (ad 169)), (11, .ref (ad 170)), (12, .ref (ad 171)), (13, .ref (ad 172)), (14, .ref (ad 173)), (15, .ref (ad 174)), (16, .ref (ad 175)), (17, .ref (ad 176)), (18, .ref (ad 177)), (19, .ref (ad 178)), (20, .int x20), (21, .int x21), (23, .int x23), (24, .int x24), (25, .long x25), (27, .int x27)]) (h : fL_law_1071 N xs Lx rec221 σ x20 x21 x23 x24 x25 x27 = some res) : W p l e room_1 s m args below meth c H locs kc ns (lw_Z below args s) (F0 m 1071 ls []) := by
  unfold fL_law_1071 at h
  refine lv_iload hx hb dL_law_1071 (lv_at hl 22 rfl) ?_
  refine lv_bipush (v := 13) hx hb dL_law_1073 (by decide +kernel) ?_
  refine lv_icmp_ge (tgt := 1302) hx hb dL_law_1075 (by decide) (fun z_1 => ?_) (fun z_1 => ?_)
  ·
    rw [if_pos z_1] at h
    have qz_1 := g_get z_1; (try simp only [g_l0, g_l3, g_l6, g_l80] at qz_1)
    exact wL_law_1302 hx hb hr hml hown hg hlocks hK hA hL hfl hZ hX hbl hA2 hres hL2 hrec221 (by first | omega | (simp only [g_l0]; omega)) (by first | omega | (simp only [g_l0]; omega)) (by first | omega | (simp only [g_l0]; omega)) (by first | omega | (simp only [g_l0]; omega)) hY (lv_sub hl [0, 1, 2, 3, 4, 5, 6, 7, 8, 9, 10, 11, 12, 13, 14, 15, 16, 17, 18, 19, 21, 22, 23, 24, 25] rfl) h
  ·
    rw [if_neg z_1] at h
    have qz_1 := g_gef z_1; (try simp only [g_l0, g_l3, g_l6, g_l80] at qz_1)
    refine lv_aload_n hx hb dL_law_1078 rfl (lv_at hl 2 rfl) ?_
    refine lv_iconst (v := 2) hx hb dL_law_1079 (by decide) ?_
    refine G_iald (j := 2) hx hb hK hY (hL 161 (by decide)) gk_161 (by rw [gl_161]; decide +kernel) (by decide +kernel) dL_law_1080 ?_
    refine lv_if_le (tgt := 1302) hx hb dL_law_1081 (by decide) (fun z_2 => ?_) (fun z_2 => ?_)
    ·
      rw [if_pos z_2] at h
      have qz_2 := g_let z_2; (try simp only [g_l0, g_l3, g_l6, g_l80] at qz_2)
      exact wL_law_1302 hx hb hr hml hown hg hlocks hK hA hL hfl hZ hX hbl hA2 hres hL2 hrec221 (by first | omega | (simp only [g_l0]; omega)) (by first | omega | (simp only [g_l0]; omega)) (by first | omega | (simp only [g_l0]; omega)) (by first | omega | (simp only [g_l0]; omega)) hY (lv_sub hl [0, 1, 2, 3, 4, 5, 6, 7, 8, 9, 10, 11, 12, 13, 14, 15, 16, 17, 18, 19, 21, 22, 23, 24, 25] rfl) h
    ·
      rw [if_neg z_2] at h
      have qz_2 := g_lef z_2; (try simp only [g_l0, g_l3, g_l6, g_l80] at qz_2)
      refine lv_iload hx hb dL_law_1084 (lv_at hl 23 rfl) ?_
      refine lv_aload_n hx hb dL_law_1086 rfl (lv_at hl 2 rfl) ?_
      refine lv_iconst (v := 2) hx hb dL_law_1087 (by decide) ?_
      refine G_iald (j := 2) hx hb hK hY (hL 161 (by decide)) gk_161 (by rw [gl_161]; decide +kernel) (by decide +kernel) dL_law_1088 ?_
      obtain ⟨z_3, h⟩ := g_guard h
      refine lv_irem hx hb dL_law_1089 z_3 ?_
      refine lv_istore (lv' := [(28, .int (x24 - x24 / (σ.1 161 2) * (σ.1 161 2))), (0, .ref b), (1, .ref (ad 0)), (2, .ref (ad 161)), (3, .ref (ad 162)), (4, .ref (ad 163)), (5, .ref (ad 164)), (6, .ref (ad 165)), (7, .ref (ad 166)), (8, .ref (ad 167)), (9, .ref (ad 168)), (10, .ref (ad 169)), (11, .ref (ad 170)), (12, .ref (ad 171)), (13, .ref (ad 172)), (14, .ref (ad 173)), (15, .ref (ad 174)), (16, .ref (ad 175)), (17, .ref (ad 176)), (18, .ref (ad 177)), (19, .ref (ad 178)), (20, .int x20), (21, .int x21), (23, .int x23), (24, .int x24), (25, .long x25), (27, .int x27)]) hx hb dL_law_1090 hl (by decide) rfl ?_
      clear hl
      intro ls hl
      refine lv_iload hx hb dL_law_1092 (lv_at hl 24 rfl) ?_
      refine lv_iconst (v := 4) hx hb dL_law_1094 (by decide) ?_
      refine lv_idiv hx hb dL_law_1095 (by decide +kernel) ?_
      refine lv_iconst (v := 4) hx hb dL_law_1096 (by decide) ?_
      refine lv_irem hx hb dL_law_1097 (by decide +kernel) ?_
      refine lv_istore (lv' := [(29, .int ((x24 / 4) - (x24 / 4) / 4 * 4)), (28, .int (x24 - x24 / (σ.1 161 2) * (σ.1 161 2))), (0, .ref b), (1, .ref (ad 0)), (2, .ref (ad 161)), (3, .ref (ad 162)), (4, .ref (ad 163)), (5, .ref (ad 164)), (6, .ref (ad 165)), (7, .ref (ad 166)), (8, .ref (ad 167)), (9, .ref (ad 168)), (10, .ref (ad 169)), (11, .ref (ad 170)), (12, .ref (ad 171)), (13, .ref (ad 172)), (14, .ref (ad 173)), (15, .ref (ad 174)), (16, .ref (ad 175)), (17, .ref (ad 176)), (18, .ref (ad 177)), (19, .ref (ad 178)), (20, .int x20), (21, .int x21), (23, .int x23), (24, .int x24), (25, .long x25), (27, .int x27)]) hx hb dL_law_1098 hl (by decide) rfl ?_
      clear hl
      intro ls hl
      refine lv_iload hx hb dL_law_1100 (lv_at hl 25 rfl) ?_
      refine lv_bipush (v := 16) hx hb dL_law_1102 (by decide +kernel) ?_
      refine lv_idiv hx hb dL_law_1104 (by decide +kernel) ?_
      refine lv_iconst (v := 4) hx hb dL_law_1105 (by decide) ?_
      refine lv_irem hx hb dL_law_1106 (by decide +kernel) ?_
      refine lv_istore (lv' := [(30, .int ((x24 / 16) - (x24 / 16) / 4 * 4)), (29, .int ((x24 / 4) - (x24 / 4) / 4 * 4)), (28, .int (x24 - x24 / (σ.1 161 2) * (σ.1 161 2))), (0, .ref b), (1, .ref (ad 0)), (2, .ref (ad 161)), (3, .ref (ad 162)), (4, .ref (ad 163)), (5, .ref (ad 164)), (6, .ref (ad 165)), (7, .ref (ad 166)), (8, .ref (ad 167)), (9, .ref (ad 168)), (10, .ref (ad 169)), (11, .ref (ad 170)), (12, .ref (ad 171)), (13, .ref (ad 172)), (14, .ref (ad 173)), (15, .ref (ad 174)), (16, .ref (ad 175)), (17, .ref (ad 176)), (18, .ref (ad 177)), (19, .ref (ad 178)), (20, .int x20), (21, .int x21), (23, .int x23), (24, .int x24), (25, .long x25), (27, .int x27)]) hx hb dL_law_1107 hl (by decide) rfl ?_
      clear hl
      intro ls hl
      refine lv_aload hx hb dL_law_1109 (lv_at hl 16 rfl) ?_
      refine lv_bipush (v := 12) hx hb dL_law_1111 (by decide +kernel) ?_
      refine lv_iload hx hb dL_law_1113 (lv_at hl 2 rfl) ?_
      refine lv_imul hx hb dL_law_1115 ?_
      obtain ⟨z_4, h⟩ := g_guard h
      refine G_iald (j := (12 * (x24 - x24 / (σ.1 161 2) * (σ.1 161 2))).toNatClampNeg) hx hb hK hY (hL 172 (by decide)) gk_172 (by rw [gl_172]; exact z_4) rfl dL_law_1116 ?_
      refine lv_iload hx hb dL_law_1117 (lv_at hl 1 rfl) ?_
      refine lv_ishr hx hb dL_law_1119 ?_
      refine lv_iconst (v := 1) hx hb dL_law_1120 (by decide) ?_
      refine lv_iand hx hb dL_law_1121 ?_
      refine lv_iconst (v := 1) hx hb dL_law_1122 (by decide) ?_
      refine lv_icmp_ne (tgt := 1161) hx hb dL_law_1123 (by decide) (fun z_5 => ?_) (fun z_5 => ?_)
      ·
        rw [if_neg z_5] at h
        exact wL_law_1161 hx hb hr hml hown hg hlocks hK hA hL hfl hZ hX hbl hA2 hres hL2 hrec221 (by first | omega | (simp only [g_l0]; omega)) (by first | omega | (simp only [g_l0]; omega)) (by first | omega | (simp only [g_l0]; omega)) (by first | omega | (simp only [g_l0]; omega)) hY (lv_sub hl [3, 4, 5, 6, 7, 8, 9, 10, 11, 12, 13, 14, 15, 16, 17, 18, 19, 20, 21, 22, 23, 24, 26, 2, 1, 0] rfl) h
      ·
        rw [if_pos z_5] at h
        refine lv_aload hx hb dL_law_1126 (lv_at hl 16 rfl) ?_
        refine lv_bipush (v := 12) hx hb dL_law_1128 (by decide +kernel) ?_
        refine lv_iload hx hb dL_law_1130 (lv_at hl 2 rfl) ?_
        refine lv_imul hx hb dL_law_1132 ?_
        obtain ⟨z_6, h⟩ := g_guard h
        refine G_iald (j := (12 * (x24 - x24 / (σ.1 161 2) * (σ.1 161 2))).toNatClampNeg) hx hb hK hY (hL 172 (by decide)) gk_172 (by rw [gl_172]; exact z_6) rfl dL_law_1133 ?_
        refine lv_iload hx hb dL_law_1134 (lv_at hl 0 rfl) ?_
        refine lv_ishr hx hb dL_law_1136 ?_
        refine lv_iconst (v := 1) hx hb dL_law_1137 (by decide) ?_
        refine lv_iand hx hb dL_law_1138 ?_
        refine lv_iconst (v := 1) hx hb dL_law_1139 (by decide) ?_
        refine lv_icmp_ne (tgt := 1161) hx hb dL_law_1140 (by decide) (fun z_7 => ?_) (fun z_7 => ?_)
        ·
          rw [if_neg z_7] at h
          exact wL_law_1161 hx hb hr hml hown hg hlocks hK hA hL hfl hZ hX hbl hA2 hres hL2 hrec221 (by first | omega | (simp only [g_l0]; omega)) (by first | omega | (simp only [g_l0]; omega)) (by first | omega | (simp only [g_l0]; omega)) (by first | omega | (simp only [g_l0]; omega)) hY (lv_sub hl [3, 4, 5, 6, 7, 8, 9, 10, 11, 12, 13, 14, 15, 16, 17, 18, 19, 20, 21, 22, 23, 24, 26, 2, 1, 0] rfl) h
        ·
          rw [if_pos z_7] at h
          refine lv_aload hx hb dL_law_1143 (lv_at hl 16 rfl) ?_
          refine lv_bipush (v := 12) hx hb dL_law_1145 (by decide +kernel) ?_
          refine lv_iload hx hb dL_law_1147 (lv_at hl 2 rfl) ?_
          refine lv_imul hx hb dL_law_1149 ?_
          refine lv_iconst (v := 4) hx hb dL_law_1150 (by decide) ?_
          refine lv_iadd hx hb dL_law_1151 ?_
          obtain ⟨z_8, h⟩ := g_guard h
          refine G_iald (j := ((12 * (x24 - x24 / (σ.1 161 2) * (σ.1 161 2))) + 4).toNatClampNeg) hx hb hK hY (hL 172 (by decide)) gk_172 (by rw [gl_172]; exact z_8) rfl dL_law_1152 ?_
          refine lv_iconst (v := 5) hx hb dL_law_1153 (by decide) ?_
          refine lv_icmp_ge (tgt := 1161) hx hb dL_law_1154 (by decide) (fun z_9 => ?_) (fun z_9 => ?_)
          ·
            rw [if_pos z_9] at h
            have qz_9 := g_get z_9; (try simp only [g_l0, g_l3, g_l6, g_l80] at qz_9)
            exact wL_law_1161 hx hb hr hml hown hg hlocks hK hA hL hfl hZ hX hbl hA2 hres hL2 hrec221 (by first | omega | (simp only [g_l0]; omega)) (by first | omega | (simp only [g_l0]; omega)) (by first | omega | (simp only [g_l0]; omega)) (by first | omega | (simp only [g_l0]; omega)) hY (lv_sub hl [3, 4, 5, 6, 7, 8, 9, 10, 11, 12, 13, 14, 15, 16, 17, 18, 19, 20, 21, 22, 23, 24, 26, 2, 1, 0] rfl) h
          ·
            rw [if_neg z_9] at h
            have qz_9 := g_gef z_9; (try simp only [g_l0, g_l3, g_l6, g_l80] at qz_9)
            refine lv_iconst (v := 1) hx hb dL_law_1157 (by decide) ?_
            refine lv_goto (tgt := 1162) hx hb dL_law_1158 (by decide) ?_
            exact wL_law_1162 hx hb hr hml hown hg hlocks hK hA hL hfl hZ hX hbl hA2 hres hL2 hrec221 (by first | omega | (simp only [g_l0]; omega)) (by first | omega | (simp only [g_l0]; omega)) (by first | omega | (simp only [g_l0]; omega)) (by first | omega | (simp only [g_l0]; omega)) hY (lv_sub hl [3, 4, 5, 6, 7, 8, 9, 10, 11, 12, 13, 14, 15, 16, 17, 18, 19, 20, 21, 22, 23, 24, 26, 2, 1, 0] rfl) h
def fL_law_1022 (N : Nat) (xs : Nat → Int32) (Lx : Nat) (rec221 : (gS × Int32 × Int32) → Option Int32) (σ : gS) (x21 : Int32) (x24 : Int32) (x28 : Int32) (x29 : Int32) (x30 : Int32) (xs0 : Int32) : Option Int32 := if (12 * (σ.1 161 2)) < 0 ∨ 48 ≤ (12 * (σ.1 161 2)).toNatClampNeg then none else (if ((12 * ((sI σ 172 ((12 * (σ.1 161 2)).toNatClampNeg) x28).1 161 2)) + 1) < 0 ∨ 48 ≤ ((12 * ((sI σ 172 ((12 * (σ.1 161 2)).toNatClampNeg) x28).1 161 2)) + 1).toNatClampNeg then none else (if ((12 * ((sI (sI σ 172 ((12 * (σ.1 161 2)).toNatClampNeg) x28) 172 (((12 * ((sI σ 172 ((12 * (σ.1 161 2)).toNatClampNeg) x28).1 161 2)) + 1).toNatClampNeg) x29).1 161 2)) + 2) < 0 ∨ 48 ≤ ((12 * ((sI (sI σ 172 ((12 * (σ.1 161 2)).toNatClampNeg) x28) 172 (((12 * ((sI σ 172 ((12 * (σ.1 161 2)).toNatClampNeg) x28).1 161 2)) + 1).toNatClampNeg) x29).1 161 2)) + 2).toNatClampNeg then none else (fL_law_2698 N xs Lx rec221 (sI (sI (sI (sI σ 172 ((12 * (σ.1 161 2)).toNatClampNeg) x28) 172 (((12 * ((sI σ 172 ((12 * (σ.1 161 2)).toNatClampNeg) x28).1 161 2)) + 1).toNatClampNeg) x29) 172 (((12 * ((sI (sI σ 172 ((12 * (σ.1 161 2)).toNatClampNeg) x28) 172 (((12 * ((sI σ 172 ((12 * (σ.1 161 2)).toNatClampNeg) x28).1 161 2)) + 1).toNatClampNeg) x29).1 161 2)) + 2).toNatClampNeg) x30) 161 2 (((sI (sI (sI σ 172 ((12 * (σ.1 161 2)).toNatClampNeg) x28) 172 (((12 * ((sI σ 172 ((12 * (σ.1 161 2)).toNatClampNeg) x28).1 161 2)) + 1).toNatClampNeg) x29) 172 (((12 * ((sI (sI σ 172 ((12 * (σ.1 161 2)).toNatClampNeg) x28) 172 (((12 * ((sI σ 172 ((12 * (σ.1 161 2)).toNatClampNeg) x28).1 161 2)) + 1).toNatClampNeg) x29).1 161 2)) + 2).toNatClampNeg) x30).1 161 2) + 1)) xs0 x21 x24)))
set_option maxRecDepth 100000 in
set_option maxHeartbeats 1000000 in
theorem wL_law_1022 {rec221 : (gS × Int32 × Int32) → Option Int32} {σ : gS} {x21 : Int32} {x24 : Int32} {x28 : Int32} {x29 : Int32} {x30 : Int32} {xs0 : Int32} {ad : Nat → Nat} {kc ns : Nat} (hx : p.tables.exec = Jvm.exec) (hb : c.code = cL_law) (hr : meth.sig.returnType = (some .boolean)) (hml : c.maxLocals = 37) (hown : s.vm.findClass RL = some m.cls) (hg : ∀ w ∈ wsL_law, w.before args s = true) (hlocks : meth.locks = false) (hK : gK D y aS s) (hA : ∀ q, s.heap.size ≤ q → A q) (hL : ∀ k, k < 179 → k ∈ L) (hfl : l.stackTraces = false) (hZ : gZ A s s.heap) (hX : va_X b Lx xs s s.heap) (hbl : b < s.heap.size) (hA2 : ∀ q, A q → s.heap.size ≤ q) (hres : res = 1) (hL2 : ∀ k ∈ L, k < 179) (hrec221 : ∀ {ad : Nat → Nat} {kc ns : Nat} {σ9 : gS} {x20n9 : Int32} {x21n9 : Int32} (hkc : kc ≤ 183 + 643 * x21n9.toInt.toNat + 0) (hns : ns ≤ 3391 + 81814 * x21n9.toInt.toNat + 0) (hi0 : 0 ≤ x21n9.toInt) (hi8 : x21n9.toInt ≤ 80) (H : Heap) (locs : List Loc) (ls : Array Slot), gY D y A s L ad σ9 H locs → lv_has ls 37 [(0, .ref b), (1, .ref (ad 0)), (2, .ref (ad 161)), (3, .ref (ad 162)), (4, .ref (ad 163)), (5, .ref (ad 164)), (6, .ref (ad 165)), (7, .ref (ad 166)), (8, .ref (ad 167)), (9, .ref (ad 168)), (10, .ref (ad 169)), (11, .ref (ad 170)), (12, .ref (ad 171)), (13, .ref (ad 172)), (14, .ref (ad 173)), (15, .ref (ad 174)), (16, .ref (ad 175)), (17, .ref (ad 176)), (18, .ref (ad 177)), (19, .ref (ad 178)), (20, .int x20n9), (21, .int x21n9)] → rec221 (σ9, x20n9, x21n9) = some res → W p l e room_1 s m args below meth c H locs kc ns (lw_Z below args s) (F0 m 221 ls [])) (hkc : kc ≤ 183 + 643 * x21.toInt.toNat + 0) (hns : ns ≤ 3391 + 81814 * x21.toInt.toNat + 0) (hi0 : 0 ≤ x21.toInt) (hi8 : x21.toInt < 80) {H : Heap} {locs : List Loc} {ls : Array Slot} (hY : gY D y A s L ad σ H locs) (hl : lv_has ls 37 [(0, .ref b), (1, .ref (ad 0)), (2, .ref (ad 161)), (3, .ref (ad 162)), (4, .ref (ad 163)), (5, .ref (ad 164)), (6, .ref (ad 165)), (7, .ref (ad 166)), (8, .ref (ad 167)), (9, .ref (ad 168)), (10, .ref (ad 169)), (11, .ref (ad 170)), (12, .ref (ad 171)), (13, .ref (ad 172)), (14, .ref (ad 173)), (15, .ref (ad 174)), (16, .ref (ad 175)), (17, .ref (ad 176)), (18, .ref (ad 177)), (19, .ref (ad 178)), (21, .int x21), (24, .int x24), (28, .int x28), (29, .int x29), (30, .int x30)]) (h : fL_law_1022 N xs Lx rec221 σ x21 x24 x28 x29 x30 xs0 = some res) : W p l e room_1 s m args below meth c H locs kc ns (lw_Z below args s) (F0 m 1022 ls [.int xs0]) := by
  unfold fL_law_1022 at h
  refine lv_istore (lv' := [(20, .int xs0), (0, .ref b), (1, .ref (ad 0)), (2, .ref (ad 161)), (3, .ref (ad 162)), (4, .ref (ad 163)), (5, .ref (ad 164)), (6, .ref (ad 165)), (7, .ref (ad 166)), (8, .ref (ad 167)), (9, .ref (ad 168)), (10, .ref (ad 169)), (11, .ref (ad 170)), (12, .ref (ad 171)), (13, .ref (ad 172)), (14, .ref (ad 173)), (15, .ref (ad 174)), (16, .ref (ad 175)), (17, .ref (ad 176)), (18, .ref (ad 177)), (19, .ref (ad 178)), (21, .int x21), (24, .int x24), (28, .int x28), (29, .int x29), (30, .int x30)]) hx hb dL_law_1022 hl (by decide) rfl ?_
  clear hl
  intro ls hl
  refine lv_aload hx hb dL_law_1024 (lv_at hl 14 rfl) ?_
  refine lv_bipush (v := 12) hx hb dL_law_1026 (by decide +kernel) ?_
  refine lv_aload_n hx hb dL_law_1028 rfl (lv_at hl 3 rfl) ?_
  refine lv_iconst (v := 2) hx hb dL_law_1029 (by decide) ?_
  refine G_iald (j := 2) hx hb hK hY (hL 161 (by decide)) gk_161 (by rw [gl_161]; decide +kernel) (by decide +kernel) dL_law_1030 ?_
  refine lv_imul hx hb dL_law_1031 ?_
  refine lv_iload hx hb dL_law_1032 (lv_at hl 23 rfl) ?_
  obtain ⟨z_1, h⟩ := g_guard h
  refine G_iast (j := (12 * (σ.1 161 2)).toNatClampNeg) hx hb hK hY (hL 172 (by decide)) gk_172 (by rw [gl_172]; exact z_1) rfl dL_law_1034 ?_
  clear hY
  intro H locs hY
  refine lv_aload hx hb dL_law_1035 (lv_at hl 14 rfl) ?_
  refine lv_bipush (v := 12) hx hb dL_law_1037 (by decide +kernel) ?_
  refine lv_aload_n hx hb dL_law_1039 rfl (lv_at hl 3 rfl) ?_
  refine lv_iconst (v := 2) hx hb dL_law_1040 (by decide) ?_
  refine G_iald (j := 2) hx hb hK hY (hL 161 (by decide)) gk_161 (by rw [gl_161]; decide +kernel) (by decide +kernel) dL_law_1041 ?_
  refine lv_imul hx hb dL_law_1042 ?_
  refine lv_iconst (v := 1) hx hb dL_law_1043 (by decide) ?_
  refine lv_iadd hx hb dL_law_1044 ?_
  refine lv_iload hx hb dL_law_1045 (lv_at hl 24 rfl) ?_
  obtain ⟨z_2, h⟩ := g_guard h
  refine G_iast (j := ((12 * ((sI σ 172 ((12 * (σ.1 161 2)).toNatClampNeg) x28).1 161 2)) + 1).toNatClampNeg) hx hb hK hY (hL 172 (by decide)) gk_172 (by rw [gl_172]; exact z_2) rfl dL_law_1047 ?_
  clear hY
  intro H locs hY
  refine lv_aload hx hb dL_law_1048 (lv_at hl 14 rfl) ?_
  refine lv_bipush (v := 12) hx hb dL_law_1050 (by decide +kernel) ?_
  refine lv_aload_n hx hb dL_law_1052 rfl (lv_at hl 3 rfl) ?_
  refine lv_iconst (v := 2) hx hb dL_law_1053 (by decide) ?_
  refine G_iald (j := 2) hx hb hK hY (hL 161 (by decide)) gk_161 (by rw [gl_161]; decide +kernel) (by decide +kernel) dL_law_1054 ?_
  refine lv_imul hx hb dL_law_1055 ?_
  refine lv_iconst (v := 2) hx hb dL_law_1056 (by decide) ?_
  refine lv_iadd hx hb dL_law_1057 ?_
  refine lv_iload hx hb dL_law_1058 (lv_at hl 25 rfl) ?_
  obtain ⟨z_3, h⟩ := g_guard h
  refine G_iast (j := ((12 * ((sI (sI σ 172 ((12 * (σ.1 161 2)).toNatClampNeg) x28) 172 (((12 * ((sI σ 172 ((12 * (σ.1 161 2)).toNatClampNeg) x28).1 161 2)) + 1).toNatClampNeg) x29).1 161 2)) + 2).toNatClampNeg) hx hb hK hY (hL 172 (by decide)) gk_172 (by rw [gl_172]; exact z_3) rfl dL_law_1060 ?_
  clear hY
  intro H locs hY
  refine lv_aload_n hx hb dL_law_1061 rfl (lv_at hl 3 rfl) ?_
  refine lv_iconst (v := 2) hx hb dL_law_1062 (by decide) ?_
  refine lv_dup2_11 hx hb dL_law_1063 rfl rfl ?_
  refine G_iald (j := 2) hx hb hK hY (hL 161 (by decide)) gk_161 (by rw [gl_161]; decide +kernel) (by decide +kernel) dL_law_1064 ?_
  refine lv_iconst (v := 1) hx hb dL_law_1065 (by decide) ?_
  refine lv_iadd hx hb dL_law_1066 ?_
  refine G_iast (j := 2) hx hb hK hY (hL 161 (by decide)) gk_161 (by rw [gl_161]; decide +kernel) (by decide +kernel) dL_law_1067 ?_
  clear hY
  intro H locs hY
  refine lv_goto (tgt := 2698) hx hb dL_law_1068 (by decide) ?_
  exact wL_law_2698 hx hb hr hml hown hg hlocks hK hA hL hfl hZ hX hbl hA2 hres hL2 hrec221 (by first | omega | (simp only [g_l0]; omega)) (by first | omega | (simp only [g_l0]; omega)) (by first | omega | (simp only [g_l0]; omega)) (by first | omega | (simp only [g_l0]; omega)) hY (lv_sub hl [1, 2, 3, 4, 5, 6, 7, 8, 9, 10, 11, 12, 13, 14, 15, 16, 17, 18, 19, 20, 0, 21, 22] rfl) h
def fL_law_999 (N : Nat) (xs : Nat → Int32) (Lx : Nat) (rec221 : (gS × Int32 × Int32) → Option Int32) (σ : gS) (x21 : Int32) (x24 : Int32) (x28 : Int32) (x29 : Int32) (xs0 : Int32) : Option Int32 := (fX11_test N σ x28 x29 xs0).bind fun r_1 => if r_1.1 = (r_1.2.1 161 2) then (fL_law_1022 N xs Lx rec221 r_1.2 x21 x24 x28 x29 xs0 1) else (fL_law_1022 N xs Lx rec221 r_1.2 x21 x24 x28 x29 xs0 0)
set_option maxRecDepth 100000 in
set_option maxHeartbeats 1000000 in
theorem wL_law_999 {rec221 : (gS × Int32 × Int32) → Option Int32} {σ : gS} {x21 : Int32} {x24 : Int32} {x28 : Int32} {x29 : Int32} {xs0 : Int32} {ad : Nat → Nat} {kc ns : Nat} (hx : p.tables.exec = Jvm.exec) (hb : c.code = cL_law) (hr : meth.sig.returnType = (some .boolean)) (hml : c.maxLocals = 37) (hown : s.vm.findClass RL = some m.cls) (hg : ∀ w ∈ wsL_law, w.before args s = true) (hlocks : meth.locks = false) (hK : gK D y aS s) (hA : ∀ q, s.heap.size ≤ q → A q) (hL : ∀ k, k < 179 → k ∈ L) (hfl : l.stackTraces = false) (hZ : gZ A s s.heap) (hX : va_X b Lx xs s s.heap) (hbl : b < s.heap.size) (hA2 : ∀ q, A q → s.heap.size ≤ q) (hres : res = 1) (hL2 : ∀ k ∈ L, k < 179) (hrec221 : ∀ {ad : Nat → Nat} {kc ns : Nat} {σ9 : gS} {x20n9 : Int32} {x21n9 : Int32} (hkc : kc ≤ 183 + 643 * x21n9.toInt.toNat + 0) (hns : ns ≤ 3391 + 81814 * x21n9.toInt.toNat + 0) (hi0 : 0 ≤ x21n9.toInt) (hi8 : x21n9.toInt ≤ 80) (H : Heap) (locs : List Loc) (ls : Array Slot), gY D y A s L ad σ9 H locs → lv_has ls 37 [(0, .ref b), (1, .ref (ad 0)), (2, .ref (ad 161)), (3, .ref (ad 162)), (4, .ref (ad 163)), (5, .ref (ad 164)), (6, .ref (ad 165)), (7, .ref (ad 166)), (8, .ref (ad 167)), (9, .ref (ad 168)), (10, .ref (ad 169)), (11, .ref (ad 170)), (12, .ref (ad 171)), (13, .ref (ad 172)), (14, .ref (ad 173)), (15, .ref (ad 174)), (16, .ref (ad 175)), (17, .ref (ad 176)), (18, .ref (ad 177)), (19, .ref (ad 178)), (20, .int x20n9), (21, .int x21n9)] → rec221 (σ9, x20n9, x21n9) = some res → W p l e room_1 s m args below meth c H locs kc ns (lw_Z below args s) (F0 m 221 ls [])) (hkc : kc ≤ 183 + 643 * x21.toInt.toNat + 0) (hns : ns ≤ 3391 + 81814 * x21.toInt.toNat + 0) (hi0 : 0 ≤ x21.toInt) (hi8 : x21.toInt < 80) {H : Heap} {locs : List Loc} {ls : Array Slot} (hY : gY D y A s L ad σ H locs) (hl : lv_has ls 37 [(0, .ref b), (1, .ref (ad 0)), (2, .ref (ad 161)), (3, .ref (ad 162)), (4, .ref (ad 163)), (5, .ref (ad 164)), (6, .ref (ad 165)), (7, .ref (ad 166)), (8, .ref (ad 167)), (9, .ref (ad 168)), (10, .ref (ad 169)), (11, .ref (ad 170)), (12, .ref (ad 171)), (13, .ref (ad 172)), (14, .ref (ad 173)), (15, .ref (ad 174)), (16, .ref (ad 175)), (17, .ref (ad 176)), (18, .ref (ad 177)), (19, .ref (ad 178)), (21, .int x21), (24, .int x24), (28, .int x28), (29, .int x29)]) (h : fL_law_999 N xs Lx rec221 σ x21 x24 x28 x29 xs0 = some res) : W p l e room_1 s m args below meth c H locs kc ns (lw_Z below args s) (F0 m 999 ls [.int xs0]) := by
  unfold fL_law_999 at h
  refine lv_istore (lv' := [(30, .int xs0), (0, .ref b), (1, .ref (ad 0)), (2, .ref (ad 161)), (3, .ref (ad 162)), (4, .ref (ad 163)), (5, .ref (ad 164)), (6, .ref (ad 165)), (7, .ref (ad 166)), (8, .ref (ad 167)), (9, .ref (ad 168)), (10, .ref (ad 169)), (11, .ref (ad 170)), (12, .ref (ad 171)), (13, .ref (ad 172)), (14, .ref (ad 173)), (15, .ref (ad 174)), (16, .ref (ad 175)), (17, .ref (ad 176)), (18, .ref (ad 177)), (19, .ref (ad 178)), (21, .int x21), (24, .int x24), (28, .int x28), (29, .int x29)]) hx hb dL_law_999 hl (by decide) rfl ?_
  clear hl
  intro ls hl
  refine lv_aload_n hx hb dL_law_1001 rfl (lv_at hl 2 rfl) ?_
  refine lv_iload hx hb dL_law_1002 (lv_at hl 23 rfl) ?_
  refine lv_iload hx hb dL_law_1004 (lv_at hl 24 rfl) ?_
  refine lv_iload hx hb dL_law_1006 (lv_at hl 0 rfl) ?_
  obtain ⟨r_1, e_2, h⟩ := g_bind h
  refine G_ai hY hA (va_runV (As := [.int x28, .int x29, .int xs0]) (rest := []) ⟨hx, hb, hml, hown, hg⟩ (kX11_test l D y aS H.size L hL ad N σ x28 x29 xs0 _ e_2) (cwV 3 hg ggV_RL_209_X11_test rfl rfl rfl (by decide +kernel) ⟨Nat.le_of_ble_eq_true rfl, Nat.le_of_ble_eq_true rfl⟩) (G_pV (q := (RX11, TX11, 19)) hK hY (hL 0 (by decide)) gk_0 (by decide) rfl) rfl rfl hl.1 rfl (lv_room (Nat.le_of_ble_eq_true rfl)) dL_law_1008 ⟨(by first | omega | (show _ ≤ (600086 : Nat); omega) | (show _ ≤ (7301442 : Nat); omega)), (by first | omega | (show _ ≤ (600086 : Nat); omega) | (show _ ≤ (7301442 : Nat); omega))⟩) ?_
  clear hY
  rintro _ H locs rfl hY
  refine lv_aload_n hx hb dL_law_1011 rfl (lv_at hl 3 rfl) ?_
  refine lv_iconst (v := 2) hx hb dL_law_1012 (by decide) ?_
  refine G_iald (j := 2) hx hb hK hY (hL 161 (by decide)) gk_161 (by rw [gl_161]; decide +kernel) (by decide +kernel) dL_law_1013 ?_
  refine lv_icmp_ne (tgt := 1021) hx hb dL_law_1014 (by decide) (fun z_3 => ?_) (fun z_3 => ?_)
  ·
    rw [if_neg z_3] at h
    refine lv_iconst (v := 0) hx hb dL_law_1021 (by decide) ?_
    exact wL_law_1022 hx hb hr hml hown hg hlocks hK hA hL hfl hZ hX hbl hA2 hres hL2 hrec221 (by first | omega | (simp only [g_l0]; omega)) (by first | omega | (simp only [g_l0]; omega)) (by first | omega | (simp only [g_l0]; omega)) (by first | omega | (simp only [g_l0]; omega)) hY (lv_sub hl [1, 2, 3, 4, 5, 6, 7, 8, 9, 10, 11, 12, 13, 14, 15, 16, 17, 18, 19, 20, 21, 22, 23, 24, 0] rfl) h
  ·
    rw [if_pos z_3] at h
    refine lv_iconst (v := 1) hx hb dL_law_1017 (by decide) ?_
    refine lv_goto (tgt := 1022) hx hb dL_law_1018 (by decide) ?_
    exact wL_law_1022 hx hb hr hml hown hg hlocks hK hA hL hfl hZ hX hbl hA2 hres hL2 hrec221 (by first | omega | (simp only [g_l0]; omega)) (by first | omega | (simp only [g_l0]; omega)) (by first | omega | (simp only [g_l0]; omega)) (by first | omega | (simp only [g_l0]; omega)) hY (lv_sub hl [1, 2, 3, 4, 5, 6, 7, 8, 9, 10, 11, 12, 13, 14, 15, 16, 17, 18, 19, 20, 21, 22, 23, 24, 0] rfl) h
def fL_law_942 (N : Nat) (xs : Nat → Int32) (Lx : Nat) (rec221 : (gS × Int32 × Int32) → Option Int32) (σ : gS) (x20 : Int32) (x21 : Int32) (x23 : Int32) (x24 : Int32) (x25 : Int64) (x27 : Int32) : Option Int32 := if 11 ≤ x23 then (fL_law_1071 N xs Lx rec221 σ x20 x21 x23 x24 x25 x27) else (if 4 ≤ (σ.1 161 2) then (fL_law_1071 N xs Lx rec221 σ x20 x21 x23 x24 x25 x27) else (if ((x24 / 45) - (x24 / 45) / 3 * 3) = 0 then (fL_law_999 N xs Lx rec221 σ x21 x24 ((x24 - x24 / 15 * 15) + 1) (1 + ((x24 / 15) - (x24 / 15) / 3 * 3)) ((x24 / 135) - (x24 / 135) / 10 * 10)) else (fL_law_999 N xs Lx rec221 σ x21 x24 ((x24 - x24 / 15 * 15) + 1) (1 + ((x24 / 15) - (x24 / 15) / 3 * 3)) 0)))
set_option maxRecDepth 100000 in
set_option maxHeartbeats 1000000 in
theorem wL_law_942 {rec221 : (gS × Int32 × Int32) → Option Int32} {σ : gS} {x20 : Int32} {x21 : Int32} {x23 : Int32} {x24 : Int32} {x25 : Int64} {x27 : Int32} {ad : Nat → Nat} {kc ns : Nat} (hx : p.tables.exec = Jvm.exec) (hb : c.code = cL_law) (hr : meth.sig.returnType = (some .boolean)) (hml : c.maxLocals = 37) (hown : s.vm.findClass RL = some m.cls) (hg : ∀ w ∈ wsL_law, w.before args s = true) (hlocks : meth.locks = false) (hK : gK D y aS s) (hA : ∀ q, s.heap.size ≤ q → A q) (hL : ∀ k, k < 179 → k ∈ L) (hfl : l.stackTraces = false) (hZ : gZ A s s.heap) (hX : va_X b Lx xs s s.heap) (hbl : b < s.heap.size) (hA2 : ∀ q, A q → s.heap.size ≤ q) (hres : res = 1) (hL2 : ∀ k ∈ L, k < 179) (hrec221 : ∀ {ad : Nat → Nat} {kc ns : Nat} {σ9 : gS} {x20n9 : Int32} {x21n9 : Int32} (hkc : kc ≤ 183 + 643 * x21n9.toInt.toNat + 0) (hns : ns ≤ 3391 + 81814 * x21n9.toInt.toNat + 0) (hi0 : 0 ≤ x21n9.toInt) (hi8 : x21n9.toInt ≤ 80) (H : Heap) (locs : List Loc) (ls : Array Slot), gY D y A s L ad σ9 H locs → lv_has ls 37 [(0, .ref b), (1, .ref (ad 0)), (2, .ref (ad 161)), (3, .ref (ad 162)), (4, .ref (ad 163)), (5, .ref (ad 164)), (6, .ref (ad 165)), (7, .ref (ad 166)), (8, .ref (ad 167)), (9, .ref (ad 168)), (10, .ref (ad 169)), (11, .ref (ad 170)), (12, .ref (ad 171)), (13, .ref (ad 172)), (14, .ref (ad 173)), (15, .ref (ad 174)), (16, .ref (ad 175)), (17, .ref (ad 176)), (18, .ref (ad 177)), (19, .ref (ad 178)), (20, .int x20n9), (21, .int x21n9)] → rec221 (σ9, x20n9, x21n9) = some res → W p l e room_1 s m args below meth c H locs kc ns (lw_Z below args s) (F0 m 221 ls [])) (hkc : kc ≤ 183 + 643 * x21.toInt.toNat + 0) (hns : ns ≤ 3391 + 81814 * x21.toInt.toNat + 0) (hi0 : 0 ≤ x21.toInt) (hi8 : x21.toInt < 80) {H : Heap} {locs : List Loc} {ls : Array Slot} (hY : gY D y A s L ad σ H locs) (hl : lv_has ls 37 [(0, .ref b), (1, .ref (ad 0)), (2, .ref (ad 161)), (3, .ref (ad 162)), (4, .ref (ad 163)), (5, .ref (ad 164)), (6, .ref (ad 165)), (7, .ref (ad 166)), (8, .ref (ad 167)), (9, .ref (ad 168)), (10, .ref (ad 169)), (11, .ref (ad 170)), (12, .ref (ad 171)), (13, .ref (ad 172)), (14, .ref (ad 173)), (15, .ref (ad 174)), (16, .ref (ad 175)), (17, .ref (ad 176)), (18, .ref (ad 177)), (19, .ref (ad 178)), (20, .int x20), (21, .int x21), (23, .int x23), (24, .int x24), (25, .long x25), (27, .int x27)]) (h : fL_law_942 N xs Lx rec221 σ x20 x21 x23 x24 x25 x27 = some res) : W p l e room_1 s m args below meth c H locs kc ns (lw_Z below args s) (F0 m 942 ls []) := by
  unfold fL_law_942 at h
  refine lv_iload hx hb dL_law_942 (lv_at hl 22 rfl) ?_
  refine lv_bipush (v := 11) hx hb dL_law_944 (by decide +kernel) ?_
  refine lv_icmp_ge (tgt := 1071) hx hb dL_law_946 (by decide) (fun z_1 => ?_) (fun z_1 => ?_)
  ·
    rw [if_pos z_1] at h
    have qz_1 := g_get z_1; (try simp only [g_l0, g_l3, g_l6, g_l80] at qz_1)
    exact wL_law_1071 hx hb hr hml hown hg hlocks hK hA hL hfl hZ hX hbl hA2 hres hL2 hrec221 (by first | omega | (simp only [g_l0]; omega)) (by first | omega | (simp only [g_l0]; omega)) (by first | omega | (simp only [g_l0]; omega)) (by first | omega | (simp only [g_l0]; omega)) hY (lv_sub hl [0, 1, 2, 3, 4, 5, 6, 7, 8, 9, 10, 11, 12, 13, 14, 15, 16, 17, 18, 19, 20, 21, 22, 23, 24, 25] rfl) h
  ·
    rw [if_neg z_1] at h
    have qz_1 := g_gef z_1; (try simp only [g_l0, g_l3, g_l6, g_l80] at qz_1)
    refine lv_aload_n hx hb dL_law_949 rfl (lv_at hl 2 rfl) ?_
    refine lv_iconst (v := 2) hx hb dL_law_950 (by decide) ?_
    refine G_iald (j := 2) hx hb hK hY (hL 161 (by decide)) gk_161 (by rw [gl_161]; decide +kernel) (by decide +kernel) dL_law_951 ?_
    refine lv_iconst (v := 4) hx hb dL_law_952 (by decide) ?_
    refine lv_icmp_ge (tgt := 1071) hx hb dL_law_953 (by decide) (fun z_2 => ?_) (fun z_2 => ?_)
    ·
      rw [if_pos z_2] at h
      have qz_2 := g_get z_2; (try simp only [g_l0, g_l3, g_l6, g_l80] at qz_2)
      exact wL_law_1071 hx hb hr hml hown hg hlocks hK hA hL hfl hZ hX hbl hA2 hres hL2 hrec221 (by first | omega | (simp only [g_l0]; omega)) (by first | omega | (simp only [g_l0]; omega)) (by first | omega | (simp only [g_l0]; omega)) (by first | omega | (simp only [g_l0]; omega)) hY (lv_sub hl [0, 1, 2, 3, 4, 5, 6, 7, 8, 9, 10, 11, 12, 13, 14, 15, 16, 17, 18, 19, 20, 21, 22, 23, 24, 25] rfl) h
    ·
      rw [if_neg z_2] at h
      have qz_2 := g_gef z_2; (try simp only [g_l0, g_l3, g_l6, g_l80] at qz_2)
      refine lv_iload hx hb dL_law_956 (lv_at hl 23 rfl) ?_
      refine lv_bipush (v := 15) hx hb dL_law_958 (by decide +kernel) ?_
      refine lv_irem hx hb dL_law_960 (by decide +kernel) ?_
      refine lv_iconst (v := 1) hx hb dL_law_961 (by decide) ?_
      refine lv_iadd hx hb dL_law_962 ?_
      refine lv_istore (lv' := [(28, .int ((x24 - x24 / 15 * 15) + 1)), (0, .ref b), (1, .ref (ad 0)), (2, .ref (ad 161)), (3, .ref (ad 162)), (4, .ref (ad 163)), (5, .ref (ad 164)), (6, .ref (ad 165)), (7, .ref (ad 166)), (8, .ref (ad 167)), (9, .ref (ad 168)), (10, .ref (ad 169)), (11, .ref (ad 170)), (12, .ref (ad 171)), (13, .ref (ad 172)), (14, .ref (ad 173)), (15, .ref (ad 174)), (16, .ref (ad 175)), (17, .ref (ad 176)), (18, .ref (ad 177)), (19, .ref (ad 178)), (20, .int x20), (21, .int x21), (23, .int x23), (24, .int x24), (25, .long x25), (27, .int x27)]) hx hb dL_law_963 hl (by decide) rfl ?_
      clear hl
      intro ls hl
      refine lv_iconst (v := 1) hx hb dL_law_965 (by decide) ?_
      refine lv_iload hx hb dL_law_966 (lv_at hl 24 rfl) ?_
      refine lv_bipush (v := 15) hx hb dL_law_968 (by decide +kernel) ?_
      refine lv_idiv hx hb dL_law_970 (by decide +kernel) ?_
      refine lv_iconst (v := 3) hx hb dL_law_971 (by decide) ?_
      refine lv_irem hx hb dL_law_972 (by decide +kernel) ?_
      refine lv_iadd hx hb dL_law_973 ?_
      refine lv_istore (lv' := [(29, .int (1 + ((x24 / 15) - (x24 / 15) / 3 * 3))), (28, .int ((x24 - x24 / 15 * 15) + 1)), (0, .ref b), (1, .ref (ad 0)), (2, .ref (ad 161)), (3, .ref (ad 162)), (4, .ref (ad 163)), (5, .ref (ad 164)), (6, .ref (ad 165)), (7, .ref (ad 166)), (8, .ref (ad 167)), (9, .ref (ad 168)), (10, .ref (ad 169)), (11, .ref (ad 170)), (12, .ref (ad 171)), (13, .ref (ad 172)), (14, .ref (ad 173)), (15, .ref (ad 174)), (16, .ref (ad 175)), (17, .ref (ad 176)), (18, .ref (ad 177)), (19, .ref (ad 178)), (20, .int x20), (21, .int x21), (23, .int x23), (24, .int x24), (25, .long x25), (27, .int x27)]) hx hb dL_law_974 hl (by decide) rfl ?_
      clear hl
      intro ls hl
      refine lv_iload hx hb dL_law_976 (lv_at hl 25 rfl) ?_
      refine lv_bipush (v := 45) hx hb dL_law_978 (by decide +kernel) ?_
      refine lv_idiv hx hb dL_law_980 (by decide +kernel) ?_
      refine lv_iconst (v := 3) hx hb dL_law_981 (by decide) ?_
      refine lv_irem hx hb dL_law_982 (by decide +kernel) ?_
      refine lv_if_ne (tgt := 998) hx hb dL_law_983 (by decide) (fun z_3 => ?_) (fun z_3 => ?_)
      ·
        rw [if_neg z_3] at h
        refine lv_iconst (v := 0) hx hb dL_law_998 (by decide) ?_
        exact wL_law_999 hx hb hr hml hown hg hlocks hK hA hL hfl hZ hX hbl hA2 hres hL2 hrec221 (by first | omega | (simp only [g_l0]; omega)) (by first | omega | (simp only [g_l0]; omega)) (by first | omega | (simp only [g_l0]; omega)) (by first | omega | (simp only [g_l0]; omega)) hY (lv_sub hl [2, 3, 4, 5, 6, 7, 8, 9, 10, 11, 12, 13, 14, 15, 16, 17, 18, 19, 20, 21, 23, 25, 1, 0] rfl) h
      ·
        rw [if_pos z_3] at h
        refine lv_iload hx hb dL_law_986 (lv_at hl 25 rfl) ?_
        refine lv_sipush (v := 135) hx hb dL_law_988 (by decide +kernel) ?_
        refine lv_idiv hx hb dL_law_991 (by decide +kernel) ?_
        refine lv_bipush (v := 10) hx hb dL_law_992 (by decide +kernel) ?_
        refine lv_irem hx hb dL_law_994 (by decide +kernel) ?_
        refine lv_goto (tgt := 999) hx hb dL_law_995 (by decide) ?_
        exact wL_law_999 hx hb hr hml hown hg hlocks hK hA hL hfl hZ hX hbl hA2 hres hL2 hrec221 (by first | omega | (simp only [g_l0]; omega)) (by first | omega | (simp only [g_l0]; omega)) (by first | omega | (simp only [g_l0]; omega)) (by first | omega | (simp only [g_l0]; omega)) hY (lv_sub hl [2, 3, 4, 5, 6, 7, 8, 9, 10, 11, 12, 13, 14, 15, 16, 17, 18, 19, 20, 21, 23, 25, 1, 0] rfl) h
def fL_law_939 (N : Nat) (xs : Nat → Int32) (Lx : Nat) (rec221 : (gS × Int32 × Int32) → Option Int32) (σ : gS) (x20 : Int32) (x21 : Int32) (x24 : Int32) : Option Int32 := fL_law_2698 N xs Lx rec221 σ x20 x21 x24
set_option maxRecDepth 100000 in
set_option maxHeartbeats 1000000 in
theorem wL_law_939 {rec221 : (gS × Int32 × Int32) → Option Int32} {σ : gS} {x20 : Int32} {x21 : Int32} {x24 : Int32} {ad : Nat → Nat} {kc ns : Nat} (hx : p.tables.exec = Jvm.exec) (hb : c.code = cL_law) (hr : meth.sig.returnType = (some .boolean)) (hml : c.maxLocals = 37) (hown : s.vm.findClass RL = some m.cls) (hg : ∀ w ∈ wsL_law, w.before args s = true) (hlocks : meth.locks = false) (hK : gK D y aS s) (hA : ∀ q, s.heap.size ≤ q → A q) (hL : ∀ k, k < 179 → k ∈ L) (hfl : l.stackTraces = false) (hZ : gZ A s s.heap) (hX : va_X b Lx xs s s.heap) (hbl : b < s.heap.size) (hA2 : ∀ q, A q → s.heap.size ≤ q) (hres : res = 1) (hL2 : ∀ k ∈ L, k < 179) (hrec221 : ∀ {ad : Nat → Nat} {kc ns : Nat} {σ9 : gS} {x20n9 : Int32} {x21n9 : Int32} (hkc : kc ≤ 183 + 643 * x21n9.toInt.toNat + 0) (hns : ns ≤ 3391 + 81814 * x21n9.toInt.toNat + 0) (hi0 : 0 ≤ x21n9.toInt) (hi8 : x21n9.toInt ≤ 80) (H : Heap) (locs : List Loc) (ls : Array Slot), gY D y A s L ad σ9 H locs → lv_has ls 37 [(0, .ref b), (1, .ref (ad 0)), (2, .ref (ad 161)), (3, .ref (ad 162)), (4, .ref (ad 163)), (5, .ref (ad 164)), (6, .ref (ad 165)), (7, .ref (ad 166)), (8, .ref (ad 167)), (9, .ref (ad 168)), (10, .ref (ad 169)), (11, .ref (ad 170)), (12, .ref (ad 171)), (13, .ref (ad 172)), (14, .ref (ad 173)), (15, .ref (ad 174)), (16, .ref (ad 175)), (17, .ref (ad 176)), (18, .ref (ad 177)), (19, .ref (ad 178)), (20, .int x20n9), (21, .int x21n9)] → rec221 (σ9, x20n9, x21n9) = some res → W p l e room_1 s m args below meth c H locs kc ns (lw_Z below args s) (F0 m 221 ls [])) (hkc : kc ≤ 183 + 643 * x21.toInt.toNat + 1) (hns : ns ≤ 3391 + 81814 * x21.toInt.toNat + 6) (hi0 : 0 ≤ x21.toInt) (hi8 : x21.toInt < 80) {H : Heap} {locs : List Loc} {ls : Array Slot} (hY : gY D y A s L ad σ H locs) (hl : lv_has ls 37 [(0, .ref b), (1, .ref (ad 0)), (2, .ref (ad 161)), (3, .ref (ad 162)), (4, .ref (ad 163)), (5, .ref (ad 164)), (6, .ref (ad 165)), (7, .ref (ad 166)), (8, .ref (ad 167)), (9, .ref (ad 168)), (10, .ref (ad 169)), (11, .ref (ad 170)), (12, .ref (ad 171)), (13, .ref (ad 172)), (14, .ref (ad 173)), (15, .ref (ad 174)), (16, .ref (ad 175)), (17, .ref (ad 176)), (18, .ref (ad 177)), (19, .ref (ad 178)), (20, .int x20), (21, .int x21), (24, .int x24)]) (h : fL_law_939 N xs Lx rec221 σ x20 x21 x24 = some res) : W p l e room_1 s m args below meth c H locs kc ns (lw_Z below args s) (F0 m 939 ls []) := by
  unfold fL_law_939 at h
  refine lv_goto (tgt := 2698) hx hb dL_law_939 (by decide) ?_
  exact wL_law_2698 hx hb hr hml hown hg hlocks hK hA hL hfl hZ hX hbl hA2 hres hL2 hrec221 (by first | omega | (simp only [g_l0]; omega)) (by first | omega | (simp only [g_l0]; omega)) (by first | omega | (simp only [g_l0]; omega)) (by first | omega | (simp only [g_l0]; omega)) hY (lv_sub hl [0, 1, 2, 3, 4, 5, 6, 7, 8, 9, 10, 11, 12, 13, 14, 15, 16, 17, 18, 19, 20, 21, 22] rfl) h
def fL_law_897 (N : Nat) (xs : Nat → Int32) (Lx : Nat) (rec221 : (gS × Int32 × Int32) → Option Int32) (σ : gS) (x21 : Int32) (x24 : Int32) (x27 : Int32) (x28 : Int32) (xs0 : Int32) : Option Int32 := if x28 = 0 then (fL_law_939 N xs Lx rec221 σ xs0 x21 x24) else (if x27 < 0 ∨ 24 ≤ x27.toNatClampNeg then none else (if x27 < 0 ∨ 24 ≤ x27.toNatClampNeg then none else (if x27 < 0 ∨ 24 ≤ x27.toNatClampNeg then none else (fL_law_939 N xs Lx rec221 (sI (sI (sI (sI σ 164 x27.toNatClampNeg 1) 165 x27.toNatClampNeg ((x24 / 7) - (x24 / 7) / 4 * 4)) 166 x27.toNatClampNeg ((sI (sI σ 164 x27.toNatClampNeg 1) 165 x27.toNatClampNeg ((x24 / 7) - (x24 / 7) / 4 * 4)).1 161 7)) 161 7 (((sI (sI (sI σ 164 x27.toNatClampNeg 1) 165 x27.toNatClampNeg ((x24 / 7) - (x24 / 7) / 4 * 4)) 166 x27.toNatClampNeg ((sI (sI σ 164 x27.toNatClampNeg 1) 165 x27.toNatClampNeg ((x24 / 7) - (x24 / 7) / 4 * 4)).1 161 7)).1 161 7) + 1)) xs0 x21 x24))))
set_option maxRecDepth 100000 in
set_option maxHeartbeats 1000000 in
theorem wL_law_897 {rec221 : (gS × Int32 × Int32) → Option Int32} {σ : gS} {x21 : Int32} {x24 : Int32} {x27 : Int32} {x28 : Int32} {xs0 : Int32} {ad : Nat → Nat} {kc ns : Nat} (hx : p.tables.exec = Jvm.exec) (hb : c.code = cL_law) (hr : meth.sig.returnType = (some .boolean)) (hml : c.maxLocals = 37) (hown : s.vm.findClass RL = some m.cls) (hg : ∀ w ∈ wsL_law, w.before args s = true) (hlocks : meth.locks = false) (hK : gK D y aS s) (hA : ∀ q, s.heap.size ≤ q → A q) (hL : ∀ k, k < 179 → k ∈ L) (hfl : l.stackTraces = false) (hZ : gZ A s s.heap) (hX : va_X b Lx xs s s.heap) (hbl : b < s.heap.size) (hA2 : ∀ q, A q → s.heap.size ≤ q) (hres : res = 1) (hL2 : ∀ k ∈ L, k < 179) (hrec221 : ∀ {ad : Nat → Nat} {kc ns : Nat} {σ9 : gS} {x20n9 : Int32} {x21n9 : Int32} (hkc : kc ≤ 183 + 643 * x21n9.toInt.toNat + 0) (hns : ns ≤ 3391 + 81814 * x21n9.toInt.toNat + 0) (hi0 : 0 ≤ x21n9.toInt) (hi8 : x21n9.toInt ≤ 80) (H : Heap) (locs : List Loc) (ls : Array Slot), gY D y A s L ad σ9 H locs → lv_has ls 37 [(0, .ref b), (1, .ref (ad 0)), (2, .ref (ad 161)), (3, .ref (ad 162)), (4, .ref (ad 163)), (5, .ref (ad 164)), (6, .ref (ad 165)), (7, .ref (ad 166)), (8, .ref (ad 167)), (9, .ref (ad 168)), (10, .ref (ad 169)), (11, .ref (ad 170)), (12, .ref (ad 171)), (13, .ref (ad 172)), (14, .ref (ad 173)), (15, .ref (ad 174)), (16, .ref (ad 175)), (17, .ref (ad 176)), (18, .ref (ad 177)), (19, .ref (ad 178)), (20, .int x20n9), (21, .int x21n9)] → rec221 (σ9, x20n9, x21n9) = some res → W p l e room_1 s m args below meth c H locs kc ns (lw_Z below args s) (F0 m 221 ls [])) (hkc : kc ≤ 183 + 643 * x21.toInt.toNat + 1) (hns : ns ≤ 3391 + 81814 * x21.toInt.toNat + 6) (hi0 : 0 ≤ x21.toInt) (hi8 : x21.toInt < 80) {H : Heap} {locs : List Loc} {ls : Array Slot} (hY : gY D y A s L ad σ H locs) (hl : lv_has ls 37 [(0, .ref b), (1, .ref (ad 0)), (2, .ref (ad 161)), (3, .ref (ad 162)), (4, .ref (ad 163)), (5, .ref (ad 164)), (6, .ref (ad 165)), (7, .ref (ad 166)), (8, .ref (ad 167)), (9, .ref (ad 168)), (10, .ref (ad 169)), (11, .ref (ad 170)), (12, .ref (ad 171)), (13, .ref (ad 172)), (14, .ref (ad 173)), (15, .ref (ad 174)), (16, .ref (ad 175)), (17, .ref (ad 176)), (18, .ref (ad 177)), (19, .ref (ad 178)), (21, .int x21), (24, .int x24), (27, .int x27), (28, .int x28)]) (h : fL_law_897 N xs Lx rec221 σ x21 x24 x27 x28 xs0 = some res) : W p l e room_1 s m args below meth c H locs kc ns (lw_Z below args s) (F0 m 897 ls [.int xs0]) := by
  unfold fL_law_897 at h
  refine lv_istore (lv' := [(20, .int xs0), (0, .ref b), (1, .ref (ad 0)), (2, .ref (ad 161)), (3, .ref (ad 162)), (4, .ref (ad 163)), (5, .ref (ad 164)), (6, .ref (ad 165)), (7, .ref (ad 166)), (8, .ref (ad 167)), (9, .ref (ad 168)), (10, .ref (ad 169)), (11, .ref (ad 170)), (12, .ref (ad 171)), (13, .ref (ad 172)), (14, .ref (ad 173)), (15, .ref (ad 174)), (16, .ref (ad 175)), (17, .ref (ad 176)), (18, .ref (ad 177)), (19, .ref (ad 178)), (21, .int x21), (24, .int x24), (27, .int x27), (28, .int x28)]) hx hb dL_law_897 hl (by decide) rfl ?_
  clear hl
  intro ls hl
  refine lv_iload hx hb dL_law_899 (lv_at hl 24 rfl) ?_
  refine lv_if_eq (tgt := 939) hx hb dL_law_901 (by decide) (fun z_1 => ?_) (fun z_1 => ?_)
  ·
    rw [if_pos z_1] at h
    exact wL_law_939 hx hb hr hml hown hg hlocks hK hA hL hfl hZ hX hbl hA2 hres hL2 hrec221 (by first | omega | (simp only [g_l0]; omega)) (by first | omega | (simp only [g_l0]; omega)) (by first | omega | (simp only [g_l0]; omega)) (by first | omega | (simp only [g_l0]; omega)) hY (lv_sub hl [1, 2, 3, 4, 5, 6, 7, 8, 9, 10, 11, 12, 13, 14, 15, 16, 17, 18, 19, 20, 0, 21, 22] rfl) h
  ·
    rw [if_neg z_1] at h
    refine lv_aload hx hb dL_law_904 (lv_at hl 6 rfl) ?_
    refine lv_iload hx hb dL_law_906 (lv_at hl 23 rfl) ?_
    refine lv_iconst (v := 1) hx hb dL_law_908 (by decide) ?_
    obtain ⟨z_2, h⟩ := g_guard h
    refine G_iast (j := x27.toNatClampNeg) hx hb hK hY (hL 164 (by decide)) gk_164 (by rw [gl_164]; exact z_2) rfl dL_law_909 ?_
    clear hY
    intro H locs hY
    refine lv_aload hx hb dL_law_910 (lv_at hl 7 rfl) ?_
    refine lv_iload hx hb dL_law_912 (lv_at hl 23 rfl) ?_
    refine lv_iload hx hb dL_law_914 (lv_at hl 22 rfl) ?_
    refine lv_bipush (v := 7) hx hb dL_law_916 (by decide +kernel) ?_
    refine lv_idiv hx hb dL_law_918 (by decide +kernel) ?_
    refine lv_iconst (v := 4) hx hb dL_law_919 (by decide) ?_
    refine lv_irem hx hb dL_law_920 (by decide +kernel) ?_
    obtain ⟨z_3, h⟩ := g_guard h
    refine G_iast (j := x27.toNatClampNeg) hx hb hK hY (hL 165 (by decide)) gk_165 (by rw [gl_165]; exact z_3) rfl dL_law_921 ?_
    clear hY
    intro H locs hY
    refine lv_aload hx hb dL_law_922 (lv_at hl 8 rfl) ?_
    refine lv_iload hx hb dL_law_924 (lv_at hl 23 rfl) ?_
    refine lv_aload_n hx hb dL_law_926 rfl (lv_at hl 3 rfl) ?_
    refine lv_bipush (v := 7) hx hb dL_law_927 (by decide +kernel) ?_
    refine G_iald (j := 7) hx hb hK hY (hL 161 (by decide)) gk_161 (by rw [gl_161]; decide +kernel) (by decide +kernel) dL_law_929 ?_
    obtain ⟨z_4, h⟩ := g_guard h
    refine G_iast (j := x27.toNatClampNeg) hx hb hK hY (hL 166 (by decide)) gk_166 (by rw [gl_166]; exact z_4) rfl dL_law_930 ?_
    clear hY
    intro H locs hY
    refine lv_aload_n hx hb dL_law_931 rfl (lv_at hl 3 rfl) ?_
    refine lv_bipush (v := 7) hx hb dL_law_932 (by decide +kernel) ?_
    refine lv_dup2_11 hx hb dL_law_934 rfl rfl ?_
    refine G_iald (j := 7) hx hb hK hY (hL 161 (by decide)) gk_161 (by rw [gl_161]; decide +kernel) (by decide +kernel) dL_law_935 ?_
    refine lv_iconst (v := 1) hx hb dL_law_936 (by decide) ?_
    refine lv_iadd hx hb dL_law_937 ?_
    refine G_iast (j := 7) hx hb hK hY (hL 161 (by decide)) gk_161 (by rw [gl_161]; decide +kernel) (by decide +kernel) dL_law_938 ?_
    clear hY
    intro H locs hY
    exact wL_law_939 hx hb hr hml hown hg hlocks hK hA hL hfl hZ hX hbl hA2 hres hL2 hrec221 (by first | omega | (simp only [g_l0]; omega)) (by first | omega | (simp only [g_l0]; omega)) (by first | omega | (simp only [g_l0]; omega)) (by first | omega | (simp only [g_l0]; omega)) hY (lv_sub hl [1, 2, 3, 4, 5, 6, 7, 8, 9, 10, 11, 12, 13, 14, 15, 16, 17, 18, 19, 20, 0, 21, 22] rfl) h
def fL_law_887 (N : Nat) (xs : Nat → Int32) (Lx : Nat) (rec221 : (gS × Int32 × Int32) → Option Int32) (σ : gS) (x21 : Int32) (x24 : Int32) (x27 : Int32) (x28 : Int32) (xs0 : Int32) : Option Int32 := if xs0 = x28 then (fL_law_897 N xs Lx rec221 σ x21 x24 x27 x28 1) else (fL_law_897 N xs Lx rec221 σ x21 x24 x27 x28 0)
set_option maxRecDepth 100000 in
set_option maxHeartbeats 1000000 in
theorem wL_law_887 {rec221 : (gS × Int32 × Int32) → Option Int32} {σ : gS} {x21 : Int32} {x24 : Int32} {x27 : Int32} {x28 : Int32} {xs0 : Int32} {ad : Nat → Nat} {kc ns : Nat} (hx : p.tables.exec = Jvm.exec) (hb : c.code = cL_law) (hr : meth.sig.returnType = (some .boolean)) (hml : c.maxLocals = 37) (hown : s.vm.findClass RL = some m.cls) (hg : ∀ w ∈ wsL_law, w.before args s = true) (hlocks : meth.locks = false) (hK : gK D y aS s) (hA : ∀ q, s.heap.size ≤ q → A q) (hL : ∀ k, k < 179 → k ∈ L) (hfl : l.stackTraces = false) (hZ : gZ A s s.heap) (hX : va_X b Lx xs s s.heap) (hbl : b < s.heap.size) (hA2 : ∀ q, A q → s.heap.size ≤ q) (hres : res = 1) (hL2 : ∀ k ∈ L, k < 179) (hrec221 : ∀ {ad : Nat → Nat} {kc ns : Nat} {σ9 : gS} {x20n9 : Int32} {x21n9 : Int32} (hkc : kc ≤ 183 + 643 * x21n9.toInt.toNat + 0) (hns : ns ≤ 3391 + 81814 * x21n9.toInt.toNat + 0) (hi0 : 0 ≤ x21n9.toInt) (hi8 : x21n9.toInt ≤ 80) (H : Heap) (locs : List Loc) (ls : Array Slot), gY D y A s L ad σ9 H locs → lv_has ls 37 [(0, .ref b), (1, .ref (ad 0)), (2, .ref (ad 161)), (3, .ref (ad 162)), (4, .ref (ad 163)), (5, .ref (ad 164)), (6, .ref (ad 165)), (7, .ref (ad 166)), (8, .ref (ad 167)), (9, .ref (ad 168)), (10, .ref (ad 169)), (11, .ref (ad 170)), (12, .ref (ad 171)), (13, .ref (ad 172)), (14, .ref (ad 173)), (15, .ref (ad 174)), (16, .ref (ad 175)), (17, .ref (ad 176)), (18, .ref (ad 177)), (19, .ref (ad 178)), (20, .int x20n9), (21, .int x21n9)] → rec221 (σ9, x20n9, x21n9) = some res → W p l e room_1 s m args below meth c H locs kc ns (lw_Z below args s) (F0 m 221 ls [])) (hkc : kc ≤ 183 + 643 * x21.toInt.toNat + 1) (hns : ns ≤ 3391 + 81814 * x21.toInt.toNat + 6) (hi0 : 0 ≤ x21.toInt) (hi8 : x21.toInt < 80) {H : Heap} {locs : List Loc} {ls : Array Slot} (hY : gY D y A s L ad σ H locs) (hl : lv_has ls 37 [(0, .ref b), (1, .ref (ad 0)), (2, .ref (ad 161)), (3, .ref (ad 162)), (4, .ref (ad 163)), (5, .ref (ad 164)), (6, .ref (ad 165)), (7, .ref (ad 166)), (8, .ref (ad 167)), (9, .ref (ad 168)), (10, .ref (ad 169)), (11, .ref (ad 170)), (12, .ref (ad 171)), (13, .ref (ad 172)), (14, .ref (ad 173)), (15, .ref (ad 174)), (16, .ref (ad 175)), (17, .ref (ad 176)), (18, .ref (ad 177)), (19, .ref (ad 178)), (21, .int x21), (24, .int x24), (27, .int x27), (28, .int x28)]) (h : fL_law_887 N xs Lx rec221 σ x21 x24 x27 x28 xs0 = some res) : W p l e room_1 s m args below meth c H locs kc ns (lw_Z below args s) (F0 m 887 ls [.int xs0]) := by
  unfold fL_law_887 at h
  refine lv_iload hx hb dL_law_887 (lv_at hl 23 rfl) ?_
  refine lv_icmp_ne (tgt := 896) hx hb dL_law_889 (by decide) (fun z_1 => ?_) (fun z_1 => ?_)
  ·
    rw [if_neg z_1] at h
    refine lv_iconst (v := 0) hx hb dL_law_896 (by decide) ?_
    exact wL_law_897 hx hb hr hml hown hg hlocks hK hA hL hfl hZ hX hbl hA2 hres hL2 hrec221 (by first | omega | (simp only [g_l0]; omega)) (by first | omega | (simp only [g_l0]; omega)) (by first | omega | (simp only [g_l0]; omega)) (by first | omega | (simp only [g_l0]; omega)) hY (lv_sub hl [0, 1, 2, 3, 4, 5, 6, 7, 8, 9, 10, 11, 12, 13, 14, 15, 16, 17, 18, 19, 20, 21, 22, 23] rfl) h
  ·
    rw [if_pos z_1] at h
    refine lv_iconst (v := 1) hx hb dL_law_892 (by decide) ?_
    refine lv_goto (tgt := 897) hx hb dL_law_893 (by decide) ?_
    exact wL_law_897 hx hb hr hml hown hg hlocks hK hA hL hfl hZ hX hbl hA2 hres hL2 hrec221 (by first | omega | (simp only [g_l0]; omega)) (by first | omega | (simp only [g_l0]; omega)) (by first | omega | (simp only [g_l0]; omega)) (by first | omega | (simp only [g_l0]; omega)) hY (lv_sub hl [0, 1, 2, 3, 4, 5, 6, 7, 8, 9, 10, 11, 12, 13, 14, 15, 16, 17, 18, 19, 20, 21, 22, 23] rfl) h
def fL_law_862 (N : Nat) (xs : Nat → Int32) (Lx : Nat) (rec221 : (gS × Int32 × Int32) → Option Int32) (σ : gS) (x21 : Int32) (x24 : Int32) (x27 : Int32) (xs0 : Int32) : Option Int32 := (fL_does N σ (4 : Int32) x27 ((x24 / 7) - (x24 / 7) / 4 * 4) (0 : Int32)).bind fun r_1 => if r_1.1 < 0 then (fL_law_887 N xs Lx rec221 r_1.2 x21 x24 x27 xs0 0) else (fL_law_887 N xs Lx rec221 r_1.2 x21 x24 x27 xs0 1)
set_option maxRecDepth 100000 in
set_option maxHeartbeats 1000000 in
theorem wL_law_862 {rec221 : (gS × Int32 × Int32) → Option Int32} {σ : gS} {x21 : Int32} {x24 : Int32} {x27 : Int32} {xs0 : Int32} {ad : Nat → Nat} {kc ns : Nat} (hx : p.tables.exec = Jvm.exec) (hb : c.code = cL_law) (hr : meth.sig.returnType = (some .boolean)) (hml : c.maxLocals = 37) (hown : s.vm.findClass RL = some m.cls) (hg : ∀ w ∈ wsL_law, w.before args s = true) (hlocks : meth.locks = false) (hK : gK D y aS s) (hA : ∀ q, s.heap.size ≤ q → A q) (hL : ∀ k, k < 179 → k ∈ L) (hfl : l.stackTraces = false) (hZ : gZ A s s.heap) (hX : va_X b Lx xs s s.heap) (hbl : b < s.heap.size) (hA2 : ∀ q, A q → s.heap.size ≤ q) (hres : res = 1) (hL2 : ∀ k ∈ L, k < 179) (hrec221 : ∀ {ad : Nat → Nat} {kc ns : Nat} {σ9 : gS} {x20n9 : Int32} {x21n9 : Int32} (hkc : kc ≤ 183 + 643 * x21n9.toInt.toNat + 0) (hns : ns ≤ 3391 + 81814 * x21n9.toInt.toNat + 0) (hi0 : 0 ≤ x21n9.toInt) (hi8 : x21n9.toInt ≤ 80) (H : Heap) (locs : List Loc) (ls : Array Slot), gY D y A s L ad σ9 H locs → lv_has ls 37 [(0, .ref b), (1, .ref (ad 0)), (2, .ref (ad 161)), (3, .ref (ad 162)), (4, .ref (ad 163)), (5, .ref (ad 164)), (6, .ref (ad 165)), (7, .ref (ad 166)), (8, .ref (ad 167)), (9, .ref (ad 168)), (10, .ref (ad 169)), (11, .ref (ad 170)), (12, .ref (ad 171)), (13, .ref (ad 172)), (14, .ref (ad 173)), (15, .ref (ad 174)), (16, .ref (ad 175)), (17, .ref (ad 176)), (18, .ref (ad 177)), (19, .ref (ad 178)), (20, .int x20n9), (21, .int x21n9)] → rec221 (σ9, x20n9, x21n9) = some res → W p l e room_1 s m args below meth c H locs kc ns (lw_Z below args s) (F0 m 221 ls [])) (hkc : kc ≤ 183 + 643 * x21.toInt.toNat + 0) (hns : ns ≤ 3391 + 81814 * x21.toInt.toNat + 0) (hi0 : 0 ≤ x21.toInt) (hi8 : x21.toInt < 80) {H : Heap} {locs : List Loc} {ls : Array Slot} (hY : gY D y A s L ad σ H locs) (hl : lv_has ls 37 [(0, .ref b), (1, .ref (ad 0)), (2, .ref (ad 161)), (3, .ref (ad 162)), (4, .ref (ad 163)), (5, .ref (ad 164)), (6, .ref (ad 165)), (7, .ref (ad 166)), (8, .ref (ad 167)), (9, .ref (ad 168)), (10, .ref (ad 169)), (11, .ref (ad 170)), (12, .ref (ad 171)), (13, .ref (ad 172)), (14, .ref (ad 173)), (15, .ref (ad 174)), (16, .ref (ad 175)), (17, .ref (ad 176)), (18, .ref (ad 177)), (19, .ref (ad 178)), (21, .int x21), (24, .int x24), (27, .int x27)]) (h : fL_law_862 N xs Lx rec221 σ x21 x24 x27 xs0 = some res) : W p l e room_1 s m args below meth c H locs kc ns (lw_Z below args s) (F0 m 862 ls [.int xs0]) := by
  unfold fL_law_862 at h
  refine lv_istore (lv' := [(28, .int xs0), (0, .ref b), (1, .ref (ad 0)), (2, .ref (ad 161)), (3, .ref (ad 162)), (4, .ref (ad 163)), (5, .ref (ad 164)), (6, .ref (ad 165)), (7, .ref (ad 166)), (8, .ref (ad 167)), (9, .ref (ad 168)), (10, .ref (ad 169)), (11, .ref (ad 170)), (12, .ref (ad 171)), (13, .ref (ad 172)), (14, .ref (ad 173)), (15, .ref (ad 174)), (16, .ref (ad 175)), (17, .ref (ad 176)), (18, .ref (ad 177)), (19, .ref (ad 178)), (21, .int x21), (24, .int x24), (27, .int x27)]) hx hb dL_law_862 hl (by decide) rfl ?_
  clear hl
  intro ls hl
  refine lv_aload_n hx hb dL_law_864 rfl (lv_at hl 2 rfl) ?_
  refine lv_iconst (v := 4) hx hb dL_law_865 (by decide) ?_
  refine lv_iload hx hb dL_law_866 (lv_at hl 23 rfl) ?_
  refine lv_iload hx hb dL_law_868 (lv_at hl 22 rfl) ?_
  refine lv_bipush (v := 7) hx hb dL_law_870 (by decide +kernel) ?_
  refine lv_idiv hx hb dL_law_872 (by decide +kernel) ?_
  refine lv_iconst (v := 4) hx hb dL_law_873 (by decide) ?_
  refine lv_irem hx hb dL_law_874 (by decide +kernel) ?_
  refine lv_iconst (v := 0) hx hb dL_law_875 (by decide) ?_
  obtain ⟨r_1, e_2, h⟩ := g_bind h
  refine G_aiC hY hA (vx_runSW (As := [.ref (ad 0), .int 4, .int x27, .int ((x24 / 7) - (x24 / 7) / 4 * 4), .int 0]) (rest := []) ⟨hx, hb, hml, hown, hg⟩ (kL_does l hfl D y aS H.size L hL ad N σ (4 : Int32) x27 ((x24 / 7) - (x24 / 7) / 4 * 4) (0 : Int32) _ e_2) (vx_cwSW 5 hg ggS_RL_161_L_does rfl rfl rfl (by decide +kernel) ⟨Nat.le_of_ble_eq_true rfl, Nat.le_of_ble_eq_true rfl⟩) (G_xpS hZ hA hK hY) rfl rfl hl.1 rfl (lv_room (Nat.le_of_ble_eq_true rfl)) dL_law_876 ⟨(by first | omega | (show _ ≤ (600086 : Nat); omega) | (show _ ≤ (7301442 : Nat); omega)), (by first | omega | (show _ ≤ (600086 : Nat); omega) | (show _ ≤ (7301442 : Nat); omega))⟩) ?_
  clear hY
  rintro _ H locs rfl hY
  refine lv_if_lt (tgt := 886) hx hb dL_law_879 (by decide) (fun z_3 => ?_) (fun z_3 => ?_)
  ·
    rw [if_pos z_3] at h
    have qz_3 := g_ltt z_3; (try simp only [g_l0, g_l3, g_l6, g_l80] at qz_3)
    refine lv_iconst (v := 0) hx hb dL_law_886 (by decide) ?_
    exact wL_law_887 hx hb hr hml hown hg hlocks hK hA hL hfl hZ hX hbl hA2 hres hL2 hrec221 (by first | omega | (simp only [g_l0]; omega)) (by first | omega | (simp only [g_l0]; omega)) (by first | omega | (simp only [g_l0]; omega)) (by first | omega | (simp only [g_l0]; omega)) hY (lv_sub hl [1, 2, 3, 4, 5, 6, 7, 8, 9, 10, 11, 12, 13, 14, 15, 16, 17, 18, 19, 20, 21, 22, 23, 0] rfl) h
  ·
    rw [if_neg z_3] at h
    have qz_3 := g_ltf z_3; (try simp only [g_l0, g_l3, g_l6, g_l80] at qz_3)
    refine lv_iconst (v := 1) hx hb dL_law_882 (by decide) ?_
    refine lv_goto (tgt := 887) hx hb dL_law_883 (by decide) ?_
    exact wL_law_887 hx hb hr hml hown hg hlocks hK hA hL hfl hZ hX hbl hA2 hres hL2 hrec221 (by first | omega | (simp only [g_l0]; omega)) (by first | omega | (simp only [g_l0]; omega)) (by first | omega | (simp only [g_l0]; omega)) (by first | omega | (simp only [g_l0]; omega)) hY (lv_sub hl [1, 2, 3, 4, 5, 6, 7, 8, 9, 10, 11, 12, 13, 14, 15, 16, 17, 18, 19, 20, 21, 22, 23, 0] rfl) h
def fL_law_861 (N : Nat) (xs : Nat → Int32) (Lx : Nat) (rec221 : (gS × Int32 × Int32) → Option Int32) (σ : gS) (x21 : Int32) (x24 : Int32) (x27 : Int32) : Option Int32 := fL_law_862 N xs Lx rec221 σ x21 x24 x27 0
set_option maxRecDepth 100000 in
set_option maxHeartbeats 1000000 in
theorem wL_law_861 {rec221 : (gS × Int32 × Int32) → Option Int32} {σ : gS} {x21 : Int32} {x24 : Int32} {x27 : Int32} {ad : Nat → Nat} {kc ns : Nat} (hx : p.tables.exec = Jvm.exec) (hb : c.code = cL_law) (hr : meth.sig.returnType = (some .boolean)) (hml : c.maxLocals = 37) (hown : s.vm.findClass RL = some m.cls) (hg : ∀ w ∈ wsL_law, w.before args s = true) (hlocks : meth.locks = false) (hK : gK D y aS s) (hA : ∀ q, s.heap.size ≤ q → A q) (hL : ∀ k, k < 179 → k ∈ L) (hfl : l.stackTraces = false) (hZ : gZ A s s.heap) (hX : va_X b Lx xs s s.heap) (hbl : b < s.heap.size) (hA2 : ∀ q, A q → s.heap.size ≤ q) (hres : res = 1) (hL2 : ∀ k ∈ L, k < 179) (hrec221 : ∀ {ad : Nat → Nat} {kc ns : Nat} {σ9 : gS} {x20n9 : Int32} {x21n9 : Int32} (hkc : kc ≤ 183 + 643 * x21n9.toInt.toNat + 0) (hns : ns ≤ 3391 + 81814 * x21n9.toInt.toNat + 0) (hi0 : 0 ≤ x21n9.toInt) (hi8 : x21n9.toInt ≤ 80) (H : Heap) (locs : List Loc) (ls : Array Slot), gY D y A s L ad σ9 H locs → lv_has ls 37 [(0, .ref b), (1, .ref (ad 0)), (2, .ref (ad 161)), (3, .ref (ad 162)), (4, .ref (ad 163)), (5, .ref (ad 164)), (6, .ref (ad 165)), (7, .ref (ad 166)), (8, .ref (ad 167)), (9, .ref (ad 168)), (10, .ref (ad 169)), (11, .ref (ad 170)), (12, .ref (ad 171)), (13, .ref (ad 172)), (14, .ref (ad 173)), (15, .ref (ad 174)), (16, .ref (ad 175)), (17, .ref (ad 176)), (18, .ref (ad 177)), (19, .ref (ad 178)), (20, .int x20n9), (21, .int x21n9)] → rec221 (σ9, x20n9, x21n9) = some res → W p l e room_1 s m args below meth c H locs kc ns (lw_Z below args s) (F0 m 221 ls [])) (hkc : kc ≤ 183 + 643 * x21.toInt.toNat + 0) (hns : ns ≤ 3391 + 81814 * x21.toInt.toNat + 0) (hi0 : 0 ≤ x21.toInt) (hi8 : x21.toInt < 80) {H : Heap} {locs : List Loc} {ls : Array Slot} (hY : gY D y A s L ad σ H locs) (hl : lv_has ls 37 [(0, .ref b), (1, .ref (ad 0)), (2, .ref (ad 161)), (3, .ref (ad 162)), (4, .ref (ad 163)), (5, .ref (ad 164)), (6, .ref (ad 165)), (7, .ref (ad 166)), (8, .ref (ad 167)), (9, .ref (ad 168)), (10, .ref (ad 169)), (11, .ref (ad 170)), (12, .ref (ad 171)), (13, .ref (ad 172)), (14, .ref (ad 173)), (15, .ref (ad 174)), (16, .ref (ad 175)), (17, .ref (ad 176)), (18, .ref (ad 177)), (19, .ref (ad 178)), (21, .int x21), (24, .int x24), (27, .int x27)]) (h : fL_law_861 N xs Lx rec221 σ x21 x24 x27 = some res) : W p l e room_1 s m args below meth c H locs kc ns (lw_Z below args s) (F0 m 861 ls []) := by
  unfold fL_law_861 at h
  refine lv_iconst (v := 0) hx hb dL_law_861 (by decide) ?_
  exact wL_law_862 hx hb hr hml hown hg hlocks hK hA hL hfl hZ hX hbl hA2 hres hL2 hrec221 (by first | omega | (simp only [g_l0]; omega)) (by first | omega | (simp only [g_l0]; omega)) (by first | omega | (simp only [g_l0]; omega)) (by first | omega | (simp only [g_l0]; omega)) hY (lv_sub hl [0, 1, 2, 3, 4, 5, 6, 7, 8, 9, 10, 11, 12, 13, 14, 15, 16, 17, 18, 19, 20, 21, 22] rfl) h
def fL_law_857 (N : Nat) (xs : Nat → Int32) (Lx : Nat) (rec221 : (gS × Int32 × Int32) → Option Int32) (σ : gS) (x21 : Int32) (x24 : Int32) (x27 : Int32) : Option Int32 := fL_law_862 N xs Lx rec221 σ x21 x24 x27 1
set_option maxRecDepth 100000 in
set_option maxHeartbeats 1000000 in
theorem wL_law_857 {rec221 : (gS × Int32 × Int32) → Option Int32} {σ : gS} {x21 : Int32} {x24 : Int32} {x27 : Int32} {ad : Nat → Nat} {kc ns : Nat} (hx : p.tables.exec = Jvm.exec) (hb : c.code = cL_law) (hr : meth.sig.returnType = (some .boolean)) (hml : c.maxLocals = 37) (hown : s.vm.findClass RL = some m.cls) (hg : ∀ w ∈ wsL_law, w.before args s = true) (hlocks : meth.locks = false) (hK : gK D y aS s) (hA : ∀ q, s.heap.size ≤ q → A q) (hL : ∀ k, k < 179 → k ∈ L) (hfl : l.stackTraces = false) (hZ : gZ A s s.heap) (hX : va_X b Lx xs s s.heap) (hbl : b < s.heap.size) (hA2 : ∀ q, A q → s.heap.size ≤ q) (hres : res = 1) (hL2 : ∀ k ∈ L, k < 179) (hrec221 : ∀ {ad : Nat → Nat} {kc ns : Nat} {σ9 : gS} {x20n9 : Int32} {x21n9 : Int32} (hkc : kc ≤ 183 + 643 * x21n9.toInt.toNat + 0) (hns : ns ≤ 3391 + 81814 * x21n9.toInt.toNat + 0) (hi0 : 0 ≤ x21n9.toInt) (hi8 : x21n9.toInt ≤ 80) (H : Heap) (locs : List Loc) (ls : Array Slot), gY D y A s L ad σ9 H locs → lv_has ls 37 [(0, .ref b), (1, .ref (ad 0)), (2, .ref (ad 161)), (3, .ref (ad 162)), (4, .ref (ad 163)), (5, .ref (ad 164)), (6, .ref (ad 165)), (7, .ref (ad 166)), (8, .ref (ad 167)), (9, .ref (ad 168)), (10, .ref (ad 169)), (11, .ref (ad 170)), (12, .ref (ad 171)), (13, .ref (ad 172)), (14, .ref (ad 173)), (15, .ref (ad 174)), (16, .ref (ad 175)), (17, .ref (ad 176)), (18, .ref (ad 177)), (19, .ref (ad 178)), (20, .int x20n9), (21, .int x21n9)] → rec221 (σ9, x20n9, x21n9) = some res → W p l e room_1 s m args below meth c H locs kc ns (lw_Z below args s) (F0 m 221 ls [])) (hkc : kc ≤ 183 + 643 * x21.toInt.toNat + 0) (hns : ns ≤ 3391 + 81814 * x21.toInt.toNat + 0) (hi0 : 0 ≤ x21.toInt) (hi8 : x21.toInt < 80) {H : Heap} {locs : List Loc} {ls : Array Slot} (hY : gY D y A s L ad σ H locs) (hl : lv_has ls 37 [(0, .ref b), (1, .ref (ad 0)), (2, .ref (ad 161)), (3, .ref (ad 162)), (4, .ref (ad 163)), (5, .ref (ad 164)), (6, .ref (ad 165)), (7, .ref (ad 166)), (8, .ref (ad 167)), (9, .ref (ad 168)), (10, .ref (ad 169)), (11, .ref (ad 170)), (12, .ref (ad 171)), (13, .ref (ad 172)), (14, .ref (ad 173)), (15, .ref (ad 174)), (16, .ref (ad 175)), (17, .ref (ad 176)), (18, .ref (ad 177)), (19, .ref (ad 178)), (21, .int x21), (24, .int x24), (27, .int x27)]) (h : fL_law_857 N xs Lx rec221 σ x21 x24 x27 = some res) : W p l e room_1 s m args below meth c H locs kc ns (lw_Z below args s) (F0 m 857 ls []) := by
  unfold fL_law_857 at h
  refine lv_iconst (v := 1) hx hb dL_law_857 (by decide) ?_
  refine lv_goto (tgt := 862) hx hb dL_law_858 (by decide) ?_
  exact wL_law_862 hx hb hr hml hown hg hlocks hK hA hL hfl hZ hX hbl hA2 hres hL2 hrec221 (by first | omega | (simp only [g_l0]; omega)) (by first | omega | (simp only [g_l0]; omega)) (by first | omega | (simp only [g_l0]; omega)) (by first | omega | (simp only [g_l0]; omega)) hY (lv_sub hl [0, 1, 2, 3, 4, 5, 6, 7, 8, 9, 10, 11, 12, 13, 14, 15, 16, 17, 18, 19, 20, 21, 22] rfl) h
def fL_law_804 (N : Nat) (xs : Nat → Int32) (Lx : Nat) (rec221 : (gS × Int32 × Int32) → Option Int32) (σ : gS) (x20 : Int32) (x21 : Int32) (x23 : Int32) (x24 : Int32) (x25 : Int64) (x27 : Int32) : Option Int32 := if x23 = 8 then (if (σ.1 161 0) ≤ 0 then (fL_law_942 N xs Lx rec221 σ x20 x21 x23 x24 x25 x27) else (if x27 < 0 ∨ 24 ≤ x27.toNatClampNeg then none else (if (σ.1 164 x27.toNatClampNeg) = 0 then (if x27 < 0 ∨ 24 ≤ x27.toNatClampNeg then none else (if (σ.1 163 x27.toNatClampNeg) < 0 then (fL_law_857 N xs Lx rec221 σ x21 x24 x27) else (if x27 < 0 ∨ 24 ≤ x27.toNatClampNeg then none else (if (σ.1 163 x27.toNatClampNeg) < 0 ∨ 24 ≤ (σ.1 163 x27.toNatClampNeg).toNatClampNeg then none else (if (σ.1 164 ((σ.1 163 x27.toNatClampNeg).toNatClampNeg)) = 1 then (fL_law_857 N xs Lx rec221 σ x21 x24 x27) else (if x27 < 0 ∨ 24 ≤ x27.toNatClampNeg then none else (if (σ.1 163 x27.toNatClampNeg) < 0 ∨ 24 ≤ (σ.1 163 x27.toNatClampNeg).toNatClampNeg then none else (if (σ.1 164 ((σ.1 163 x27.toNatClampNeg).toNatClampNeg)) = 2 then (fL_law_857 N xs Lx rec221 σ x21 x24 x27) else (fL_law_861 N xs Lx rec221 σ x21 x24 x27))))))))) else (fL_law_861 N xs Lx rec221 σ x21 x24 x27)))) else (fL_law_942 N xs Lx rec221 σ x20 x21 x23 x24 x25 x27)
set_option maxRecDepth 100000 in
set_option maxHeartbeats 1000000 in
theorem wL_law_804 {rec221 : (gS × Int32 × Int32) → Option Int32} {σ : gS} {x20 : Int32} {x21 : Int32} {x23 : Int32} {x24 : Int32} {x25 : Int64} {x27 : Int32} {ad : Nat → Nat} {kc ns : Nat} (hx : p.tables.exec = Jvm.exec) (hb : c.code = cL_law) (hr : meth.sig.returnType = (some .boolean)) (hml : c.maxLocals = 37) (hown : s.vm.findClass RL = some m.cls) (hg : ∀ w ∈ wsL_law, w.before args s = true) (hlocks : meth.locks = false) (hK : gK D y aS s) (hA : ∀ q, s.heap.size ≤ q → A q) (hL : ∀ k, k < 179 → k ∈ L) (hfl : l.stackTraces = false) (hZ : gZ A s s.heap) (hX : va_X b Lx xs s s.heap) (hbl : b < s.heap.size) (hA2 : ∀ q, A q → s.heap.size ≤ q) (hres : res = 1) (hL2 : ∀ k ∈ L, k < 179) (hrec221 : ∀ {ad : Nat → Nat} {kc ns : Nat} {σ9 : gS} {x20n9 : Int32} {x21n9 : Int32} (hkc : kc ≤ 183 + 643 * x21n9.toInt.toNat + 0) (hns : ns ≤ 3391 + 81814 * x21n9.toInt.toNat + 0) (hi0 : 0 ≤ x21n9.toInt) (hi8 : x21n9.toInt ≤ 80) (H : Heap) (locs : List Loc) (ls : Array Slot), gY D y A s L ad σ9 H locs → lv_has ls 37 [(0, .ref b), (1, .ref (ad 0)), (2, .ref (ad 161)), (3, .ref (ad 162)), (4, .ref (ad 163)), (5, .ref (ad 164)), (6, .ref (ad 165)), (7, .ref (ad 166)), (8, .ref (ad 167)), (9, .ref (ad 168)), (10, .ref (ad 169)), (11, .ref (ad 170)), (12, .ref (ad 171)), (13, .ref (ad 172)), (14, .ref (ad 173)), (15, .ref (ad 174)), (16, .ref (ad 175)), (17, .ref (ad 176)), (18, .ref (ad 177)), (19, .ref (ad 178)), (20, .int x20n9), (21, .int x21n9)] → rec221 (σ9, x20n9, x21n9) = some res → W p l e room_1 s m args below meth c H locs kc ns (lw_Z below args s) (F0 m 221 ls [])) (hkc : kc ≤ 183 + 643 * x21.toInt.toNat + 0) (hns : ns ≤ 3391 + 81814 * x21.toInt.toNat + 0) (hi0 : 0 ≤ x21.toInt) (hi8 : x21.toInt < 80) {H : Heap} {locs : List Loc} {ls : Array Slot} (hY : gY D y A s L ad σ H locs) (hl : lv_has ls 37 [(0, .ref b), (1, .ref (ad 0)), (2, .ref (ad 161)), (3, .ref (ad 162)), (4, .ref (ad 163)), (5, .ref (ad 164)), (6, .ref (ad 165)), (7, .ref (ad 166)), (8, .ref (ad 167)), (9, .ref (ad 168)), (10, .ref (ad 169)), (11, .ref (ad 170)), (12, .ref (ad 171)), (13, .ref (ad 172)), (14, .ref (ad 173)), (15, .ref (ad 174)), (16, .ref (ad 175)), (17, .ref (ad 176)), (18, .ref (ad 177)), (19, .ref (ad 178)), (20, .int x20), (21, .int x21), (23, .int x23), (24, .int x24), (25, .long x25), (27, .int x27)]) (h : fL_law_804 N xs Lx rec221 σ x20 x21 x23 x24 x25 x27 = some res) : W p l e room_1 s m args below meth c H locs kc ns (lw_Z below args s) (F0 m 804 ls []) := by
  unfold fL_law_804 at h
  refine lv_iload hx hb dL_law_804 (lv_at hl 22 rfl) ?_
  refine lv_bipush (v := 8) hx hb dL_law_806 (by decide +kernel) ?_
  refine lv_icmp_ne (tgt := 942) hx hb dL_law_808 (by decide) (fun z_1 => ?_) (fun z_1 => ?_)
  ·
    rw [if_neg z_1] at h
    exact wL_law_942 hx hb hr hml hown hg hlocks hK hA hL hfl hZ hX hbl hA2 hres hL2 hrec221 (by first | omega | (simp only [g_l0]; omega)) (by first | omega | (simp only [g_l0]; omega)) (by first | omega | (simp only [g_l0]; omega)) (by first | omega | (simp only [g_l0]; omega)) hY (lv_sub hl [0, 1, 2, 3, 4, 5, 6, 7, 8, 9, 10, 11, 12, 13, 14, 15, 16, 17, 18, 19, 20, 21, 22, 23, 24, 25] rfl) h
  ·
    rw [if_pos z_1] at h
    refine lv_aload_n hx hb dL_law_811 rfl (lv_at hl 2 rfl) ?_
    refine lv_iconst (v := 0) hx hb dL_law_812 (by decide) ?_
    refine G_iald (j := 0) hx hb hK hY (hL 161 (by decide)) gk_161 (by rw [gl_161]; decide +kernel) (by decide +kernel) dL_law_813 ?_
    refine lv_if_le (tgt := 942) hx hb dL_law_814 (by decide) (fun z_2 => ?_) (fun z_2 => ?_)
    ·
      rw [if_pos z_2] at h
      have qz_2 := g_let z_2; (try simp only [g_l0, g_l3, g_l6, g_l80] at qz_2)
      exact wL_law_942 hx hb hr hml hown hg hlocks hK hA hL hfl hZ hX hbl hA2 hres hL2 hrec221 (by first | omega | (simp only [g_l0]; omega)) (by first | omega | (simp only [g_l0]; omega)) (by first | omega | (simp only [g_l0]; omega)) (by first | omega | (simp only [g_l0]; omega)) hY (lv_sub hl [0, 1, 2, 3, 4, 5, 6, 7, 8, 9, 10, 11, 12, 13, 14, 15, 16, 17, 18, 19, 20, 21, 22, 23, 24, 25] rfl) h
    ·
      rw [if_neg z_2] at h
      have qz_2 := g_lef z_2; (try simp only [g_l0, g_l3, g_l6, g_l80] at qz_2)
      refine lv_aload hx hb dL_law_817 (lv_at hl 5 rfl) ?_
      refine lv_iload hx hb dL_law_819 (lv_at hl 25 rfl) ?_
      obtain ⟨z_3, h⟩ := g_guard h
      refine G_iald (j := x27.toNatClampNeg) hx hb hK hY (hL 164 (by decide)) gk_164 (by rw [gl_164]; exact z_3) rfl dL_law_821 ?_
      refine lv_if_ne (tgt := 861) hx hb dL_law_822 (by decide) (fun z_4 => ?_) (fun z_4 => ?_)
      ·
        rw [if_neg z_4] at h
        exact wL_law_861 hx hb hr hml hown hg hlocks hK hA hL hfl hZ hX hbl hA2 hres hL2 hrec221 (by first | omega | (simp only [g_l0]; omega)) (by first | omega | (simp only [g_l0]; omega)) (by first | omega | (simp only [g_l0]; omega)) (by first | omega | (simp only [g_l0]; omega)) hY (lv_sub hl [0, 1, 2, 3, 4, 5, 6, 7, 8, 9, 10, 11, 12, 13, 14, 15, 16, 17, 18, 19, 21, 23, 25] rfl) h
      ·
        rw [if_pos z_4] at h
        refine lv_aload hx hb dL_law_825 (lv_at hl 4 rfl) ?_
        refine lv_iload hx hb dL_law_827 (lv_at hl 25 rfl) ?_
        obtain ⟨z_5, h⟩ := g_guard h
        refine G_iald (j := x27.toNatClampNeg) hx hb hK hY (hL 163 (by decide)) gk_163 (by rw [gl_163]; exact z_5) rfl dL_law_829 ?_
        refine lv_if_lt (tgt := 857) hx hb dL_law_830 (by decide) (fun z_6 => ?_) (fun z_6 => ?_)
        ·
          rw [if_pos z_6] at h
          have qz_6 := g_ltt z_6; (try simp only [g_l0, g_l3, g_l6, g_l80] at qz_6)
          exact wL_law_857 hx hb hr hml hown hg hlocks hK hA hL hfl hZ hX hbl hA2 hres hL2 hrec221 (by first | omega | (simp only [g_l0]; omega)) (by first | omega | (simp only [g_l0]; omega)) (by first | omega | (simp only [g_l0]; omega)) (by first | omega | (simp only [g_l0]; omega)) hY (lv_sub hl [0, 1, 2, 3, 4, 5, 6, 7, 8, 9, 10, 11, 12, 13, 14, 15, 16, 17, 18, 19, 21, 23, 25] rfl) h
        ·
          rw [if_neg z_6] at h
          have qz_6 := g_ltf z_6; (try simp only [g_l0, g_l3, g_l6, g_l80] at qz_6)
          refine lv_aload hx hb dL_law_833 (lv_at hl 5 rfl) ?_
          refine lv_aload hx hb dL_law_835 (lv_at hl 4 rfl) ?_
          refine lv_iload hx hb dL_law_837 (lv_at hl 25 rfl) ?_
          obtain ⟨z_7, h⟩ := g_guard h
          refine G_iald (j := x27.toNatClampNeg) hx hb hK hY (hL 163 (by decide)) gk_163 (by rw [gl_163]; exact z_7) rfl dL_law_839 ?_
          obtain ⟨z_8, h⟩ := g_guard h
          refine G_iald (j := (σ.1 163 x27.toNatClampNeg).toNatClampNeg) hx hb hK hY (hL 164 (by decide)) gk_164 (by rw [gl_164]; exact z_8) rfl dL_law_840 ?_
          refine lv_iconst (v := 1) hx hb dL_law_841 (by decide) ?_
          refine lv_icmp_eq (tgt := 857) hx hb dL_law_842 (by decide) (fun z_9 => ?_) (fun z_9 => ?_)
          ·
            rw [if_pos z_9] at h
            exact wL_law_857 hx hb hr hml hown hg hlocks hK hA hL hfl hZ hX hbl hA2 hres hL2 hrec221 (by first | omega | (simp only [g_l0]; omega)) (by first | omega | (simp only [g_l0]; omega)) (by first | omega | (simp only [g_l0]; omega)) (by first | omega | (simp only [g_l0]; omega)) hY (lv_sub hl [0, 1, 2, 3, 4, 5, 6, 7, 8, 9, 10, 11, 12, 13, 14, 15, 16, 17, 18, 19, 21, 23, 25] rfl) h
          ·
            rw [if_neg z_9] at h
            refine lv_aload hx hb dL_law_845 (lv_at hl 5 rfl) ?_
            refine lv_aload hx hb dL_law_847 (lv_at hl 4 rfl) ?_
            refine lv_iload hx hb dL_law_849 (lv_at hl 25 rfl) ?_
            obtain ⟨z_10, h⟩ := g_guard h
            refine G_iald (j := x27.toNatClampNeg) hx hb hK hY (hL 163 (by decide)) gk_163 (by rw [gl_163]; exact z_10) rfl dL_law_851 ?_
            obtain ⟨z_11, h⟩ := g_guard h
            refine G_iald (j := (σ.1 163 x27.toNatClampNeg).toNatClampNeg) hx hb hK hY (hL 164 (by decide)) gk_164 (by rw [gl_164]; exact z_11) rfl dL_law_852 ?_
            refine lv_iconst (v := 2) hx hb dL_law_853 (by decide) ?_
            refine lv_icmp_ne (tgt := 861) hx hb dL_law_854 (by decide) (fun z_12 => ?_) (fun z_12 => ?_)
            ·
              rw [if_neg z_12] at h
              exact wL_law_861 hx hb hr hml hown hg hlocks hK hA hL hfl hZ hX hbl hA2 hres hL2 hrec221 (by first | omega | (simp only [g_l0]; omega)) (by first | omega | (simp only [g_l0]; omega)) (by first | omega | (simp only [g_l0]; omega)) (by first | omega | (simp only [g_l0]; omega)) hY (lv_sub hl [0, 1, 2, 3, 4, 5, 6, 7, 8, 9, 10, 11, 12, 13, 14, 15, 16, 17, 18, 19, 21, 23, 25] rfl) h
            ·
              rw [if_pos z_12] at h
              exact wL_law_857 hx hb hr hml hown hg hlocks hK hA hL hfl hZ hX hbl hA2 hres hL2 hrec221 (by first | omega | (simp only [g_l0]; omega)) (by first | omega | (simp only [g_l0]; omega)) (by first | omega | (simp only [g_l0]; omega)) (by first | omega | (simp only [g_l0]; omega)) hY (lv_sub hl [0, 1, 2, 3, 4, 5, 6, 7, 8, 9, 10, 11, 12, 13, 14, 15, 16, 17, 18, 19, 21, 23, 25] rfl) h
def fL_law_801 (N : Nat) (xs : Nat → Int32) (Lx : Nat) (rec221 : (gS × Int32 × Int32) → Option Int32) (σ : gS) (x20 : Int32) (x21 : Int32) (x24 : Int32) : Option Int32 := fL_law_2698 N xs Lx rec221 σ x20 x21 x24
set_option maxRecDepth 100000 in
set_option maxHeartbeats 1000000 in
theorem wL_law_801 {rec221 : (gS × Int32 × Int32) → Option Int32} {σ : gS} {x20 : Int32} {x21 : Int32} {x24 : Int32} {ad : Nat → Nat} {kc ns : Nat} (hx : p.tables.exec = Jvm.exec) (hb : c.code = cL_law) (hr : meth.sig.returnType = (some .boolean)) (hml : c.maxLocals = 37) (hown : s.vm.findClass RL = some m.cls) (hg : ∀ w ∈ wsL_law, w.before args s = true) (hlocks : meth.locks = false) (hK : gK D y aS s) (hA : ∀ q, s.heap.size ≤ q → A q) (hL : ∀ k, k < 179 → k ∈ L) (hfl : l.stackTraces = false) (hZ : gZ A s s.heap) (hX : va_X b Lx xs s s.heap) (hbl : b < s.heap.size) (hA2 : ∀ q, A q → s.heap.size ≤ q) (hres : res = 1) (hL2 : ∀ k ∈ L, k < 179) (hrec221 : ∀ {ad : Nat → Nat} {kc ns : Nat} {σ9 : gS} {x20n9 : Int32} {x21n9 : Int32} (hkc : kc ≤ 183 + 643 * x21n9.toInt.toNat + 0) (hns : ns ≤ 3391 + 81814 * x21n9.toInt.toNat + 0) (hi0 : 0 ≤ x21n9.toInt) (hi8 : x21n9.toInt ≤ 80) (H : Heap) (locs : List Loc) (ls : Array Slot), gY D y A s L ad σ9 H locs → lv_has ls 37 [(0, .ref b), (1, .ref (ad 0)), (2, .ref (ad 161)), (3, .ref (ad 162)), (4, .ref (ad 163)), (5, .ref (ad 164)), (6, .ref (ad 165)), (7, .ref (ad 166)), (8, .ref (ad 167)), (9, .ref (ad 168)), (10, .ref (ad 169)), (11, .ref (ad 170)), (12, .ref (ad 171)), (13, .ref (ad 172)), (14, .ref (ad 173)), (15, .ref (ad 174)), (16, .ref (ad 175)), (17, .ref (ad 176)), (18, .ref (ad 177)), (19, .ref (ad 178)), (20, .int x20n9), (21, .int x21n9)] → rec221 (σ9, x20n9, x21n9) = some res → W p l e room_1 s m args below meth c H locs kc ns (lw_Z below args s) (F0 m 221 ls [])) (hkc : kc ≤ 183 + 643 * x21.toInt.toNat + 5) (hns : ns ≤ 3391 + 81814 * x21.toInt.toNat + 30) (hi0 : 0 ≤ x21.toInt) (hi8 : x21.toInt < 80) {H : Heap} {locs : List Loc} {ls : Array Slot} (hY : gY D y A s L ad σ H locs) (hl : lv_has ls 37 [(0, .ref b), (1, .ref (ad 0)), (2, .ref (ad 161)), (3, .ref (ad 162)), (4, .ref (ad 163)), (5, .ref (ad 164)), (6, .ref (ad 165)), (7, .ref (ad 166)), (8, .ref (ad 167)), (9, .ref (ad 168)), (10, .ref (ad 169)), (11, .ref (ad 170)), (12, .ref (ad 171)), (13, .ref (ad 172)), (14, .ref (ad 173)), (15, .ref (ad 174)), (16, .ref (ad 175)), (17, .ref (ad 176)), (18, .ref (ad 177)), (19, .ref (ad 178)), (20, .int x20), (21, .int x21), (24, .int x24)]) (h : fL_law_801 N xs Lx rec221 σ x20 x21 x24 = some res) : W p l e room_1 s m args below meth c H locs kc ns (lw_Z below args s) (F0 m 801 ls []) := by
  unfold fL_law_801 at h
  refine lv_goto (tgt := 2698) hx hb dL_law_801 (by decide) ?_
  exact wL_law_2698 hx hb hr hml hown hg hlocks hK hA hL hfl hZ hX hbl hA2 hres hL2 hrec221 (by first | omega | (simp only [g_l0]; omega)) (by first | omega | (simp only [g_l0]; omega)) (by first | omega | (simp only [g_l0]; omega)) (by first | omega | (simp only [g_l0]; omega)) hY (lv_sub hl [0, 1, 2, 3, 4, 5, 6, 7, 8, 9, 10, 11, 12, 13, 14, 15, 16, 17, 18, 19, 20, 21, 22] rfl) h
def fL_law_799 (N : Nat) (xs : Nat → Int32) (Lx : Nat) (rec221 : (gS × Int32 × Int32) → Option Int32) (σ : gS) (x21 : Int32) (x24 : Int32) (xs0 : Int32) : Option Int32 := fL_law_801 N xs Lx rec221 σ xs0 x21 x24
set_option maxRecDepth 100000 in
set_option maxHeartbeats 1000000 in
theorem wL_law_799 {rec221 : (gS × Int32 × Int32) → Option Int32} {σ : gS} {x21 : Int32} {x24 : Int32} {xs0 : Int32} {ad : Nat → Nat} {kc ns : Nat} (hx : p.tables.exec = Jvm.exec) (hb : c.code = cL_law) (hr : meth.sig.returnType = (some .boolean)) (hml : c.maxLocals = 37) (hown : s.vm.findClass RL = some m.cls) (hg : ∀ w ∈ wsL_law, w.before args s = true) (hlocks : meth.locks = false) (hK : gK D y aS s) (hA : ∀ q, s.heap.size ≤ q → A q) (hL : ∀ k, k < 179 → k ∈ L) (hfl : l.stackTraces = false) (hZ : gZ A s s.heap) (hX : va_X b Lx xs s s.heap) (hbl : b < s.heap.size) (hA2 : ∀ q, A q → s.heap.size ≤ q) (hres : res = 1) (hL2 : ∀ k ∈ L, k < 179) (hrec221 : ∀ {ad : Nat → Nat} {kc ns : Nat} {σ9 : gS} {x20n9 : Int32} {x21n9 : Int32} (hkc : kc ≤ 183 + 643 * x21n9.toInt.toNat + 0) (hns : ns ≤ 3391 + 81814 * x21n9.toInt.toNat + 0) (hi0 : 0 ≤ x21n9.toInt) (hi8 : x21n9.toInt ≤ 80) (H : Heap) (locs : List Loc) (ls : Array Slot), gY D y A s L ad σ9 H locs → lv_has ls 37 [(0, .ref b), (1, .ref (ad 0)), (2, .ref (ad 161)), (3, .ref (ad 162)), (4, .ref (ad 163)), (5, .ref (ad 164)), (6, .ref (ad 165)), (7, .ref (ad 166)), (8, .ref (ad 167)), (9, .ref (ad 168)), (10, .ref (ad 169)), (11, .ref (ad 170)), (12, .ref (ad 171)), (13, .ref (ad 172)), (14, .ref (ad 173)), (15, .ref (ad 174)), (16, .ref (ad 175)), (17, .ref (ad 176)), (18, .ref (ad 177)), (19, .ref (ad 178)), (20, .int x20n9), (21, .int x21n9)] → rec221 (σ9, x20n9, x21n9) = some res → W p l e room_1 s m args below meth c H locs kc ns (lw_Z below args s) (F0 m 221 ls [])) (hkc : kc ≤ 183 + 643 * x21.toInt.toNat + 5) (hns : ns ≤ 3391 + 81814 * x21.toInt.toNat + 30) (hi0 : 0 ≤ x21.toInt) (hi8 : x21.toInt < 80) {H : Heap} {locs : List Loc} {ls : Array Slot} (hY : gY D y A s L ad σ H locs) (hl : lv_has ls 37 [(0, .ref b), (1, .ref (ad 0)), (2, .ref (ad 161)), (3, .ref (ad 162)), (4, .ref (ad 163)), (5, .ref (ad 164)), (6, .ref (ad 165)), (7, .ref (ad 166)), (8, .ref (ad 167)), (9, .ref (ad 168)), (10, .ref (ad 169)), (11, .ref (ad 170)), (12, .ref (ad 171)), (13, .ref (ad 172)), (14, .ref (ad 173)), (15, .ref (ad 174)), (16, .ref (ad 175)), (17, .ref (ad 176)), (18, .ref (ad 177)), (19, .ref (ad 178)), (21, .int x21), (24, .int x24)]) (h : fL_law_799 N xs Lx rec221 σ x21 x24 xs0 = some res) : W p l e room_1 s m args below meth c H locs kc ns (lw_Z below args s) (F0 m 799 ls [.int xs0]) := by
  unfold fL_law_799 at h
  refine lv_istore (lv' := [(20, .int xs0), (0, .ref b), (1, .ref (ad 0)), (2, .ref (ad 161)), (3, .ref (ad 162)), (4, .ref (ad 163)), (5, .ref (ad 164)), (6, .ref (ad 165)), (7, .ref (ad 166)), (8, .ref (ad 167)), (9, .ref (ad 168)), (10, .ref (ad 169)), (11, .ref (ad 170)), (12, .ref (ad 171)), (13, .ref (ad 172)), (14, .ref (ad 173)), (15, .ref (ad 174)), (16, .ref (ad 175)), (17, .ref (ad 176)), (18, .ref (ad 177)), (19, .ref (ad 178)), (21, .int x21), (24, .int x24)]) hx hb dL_law_799 hl (by decide) rfl ?_
  clear hl
  intro ls hl
  exact wL_law_801 hx hb hr hml hown hg hlocks hK hA hL hfl hZ hX hbl hA2 hres hL2 hrec221 (by first | omega | (simp only [g_l0]; omega)) (by first | omega | (simp only [g_l0]; omega)) (by first | omega | (simp only [g_l0]; omega)) (by first | omega | (simp only [g_l0]; omega)) hY (lv_sub hl [1, 2, 3, 4, 5, 6, 7, 8, 9, 10, 11, 12, 13, 14, 15, 16, 17, 18, 19, 20, 0, 21, 22] rfl) h
def fL_law_750 (N : Nat) (xs : Nat → Int32) (Lx : Nat) (rec221 : (gS × Int32 × Int32) → Option Int32) (σ : gS) (x21 : Int32) (x24 : Int32) (xs0 : Int32) (xs1 : Int32) (xs2 : Int32) : Option Int32 := if xs2 < 0 ∨ 24 ≤ xs2.toNatClampNeg then none else (if (((sI σ 165 xs2.toNatClampNeg (xs1 - xs0)).1 161 0) - 1) < 0 ∨ 24 ≤ (((sI σ 165 xs2.toNatClampNeg (xs1 - xs0)).1 161 0) - 1).toNatClampNeg then none else (if (((sI (sI (sI σ 165 xs2.toNatClampNeg (xs1 - xs0)) 166 ((((sI σ 165 xs2.toNatClampNeg (xs1 - xs0)).1 161 0) - 1).toNatClampNeg) ((sI σ 165 xs2.toNatClampNeg (xs1 - xs0)).1 161 7)) 161 7 (((sI (sI σ 165 xs2.toNatClampNeg (xs1 - xs0)) 166 ((((sI σ 165 xs2.toNatClampNeg (xs1 - xs0)).1 161 0) - 1).toNatClampNeg) ((sI σ 165 xs2.toNatClampNeg (xs1 - xs0)).1 161 7)).1 161 7) + 1)).1 161 0) - 1) < 0 ∨ 24 ≤ (((sI (sI (sI σ 165 xs2.toNatClampNeg (xs1 - xs0)) 166 ((((sI σ 165 xs2.toNatClampNeg (xs1 - xs0)).1 161 0) - 1).toNatClampNeg) ((sI σ 165 xs2.toNatClampNeg (xs1 - xs0)).1 161 7)) 161 7 (((sI (sI σ 165 xs2.toNatClampNeg (xs1 - xs0)) 166 ((((sI σ 165 xs2.toNatClampNeg (xs1 - xs0)).1 161 0) - 1).toNatClampNeg) ((sI σ 165 xs2.toNatClampNeg (xs1 - xs0)).1 161 7)).1 161 7) + 1)).1 161 0) - 1).toNatClampNeg then none else ((fL_does N (sI (sI (sI σ 165 xs2.toNatClampNeg (xs1 - xs0)) 166 ((((sI σ 165 xs2.toNatClampNeg (xs1 - xs0)).1 161 0) - 1).toNatClampNeg) ((sI σ 165 xs2.toNatClampNeg (xs1 - xs0)).1 161 7)) 161 7 (((sI (sI σ 165 xs2.toNatClampNeg (xs1 - xs0)) 166 ((((sI σ 165 xs2.toNatClampNeg (xs1 - xs0)).1 161 0) - 1).toNatClampNeg) ((sI σ 165 xs2.toNatClampNeg (xs1 - xs0)).1 161 7)).1 161 7) + 1)) (4 : Int32) (((sI (sI (sI σ 165 xs2.toNatClampNeg (xs1 - xs0)) 166 ((((sI σ 165 xs2.toNatClampNeg (xs1 - xs0)).1 161 0) - 1).toNatClampNeg) ((sI σ 165 xs2.toNatClampNeg (xs1 - xs0)).1 161 7)) 161 7 (((sI (sI σ 165 xs2.toNatClampNeg (xs1 - xs0)) 166 ((((sI σ 165 xs2.toNatClampNeg (xs1 - xs0)).1 161 0) - 1).toNatClampNeg) ((sI σ 165 xs2.toNatClampNeg (xs1 - xs0)).1 161 7)).1 161 7) + 1)).1 161 0) - 1) ((sI (sI (sI σ 165 xs2.toNatClampNeg (xs1 - xs0)) 166 ((((sI σ 165 xs2.toNatClampNeg (xs1 - xs0)).1 161 0) - 1).toNatClampNeg) ((sI σ 165 xs2.toNatClampNeg (xs1 - xs0)).1 161 7)) 161 7 (((sI (sI σ 165 xs2.toNatClampNeg (xs1 - xs0)) 166 ((((sI σ 165 xs2.toNatClampNeg (xs1 - xs0)).1 161 0) - 1).toNatClampNeg) ((sI σ 165 xs2.toNatClampNeg (xs1 - xs0)).1 161 7)).1 161 7) + 1)).1 165 ((((sI (sI (sI σ 165 xs2.toNatClampNeg (xs1 - xs0)) 166 ((((sI σ 165 xs2.toNatClampNeg (xs1 - xs0)).1 161 0) - 1).toNatClampNeg) ((sI σ 165 xs2.toNatClampNeg (xs1 - xs0)).1 161 7)) 161 7 (((sI (sI σ 165 xs2.toNatClampNeg (xs1 - xs0)) 166 ((((sI σ 165 xs2.toNatClampNeg (xs1 - xs0)).1 161 0) - 1).toNatClampNeg) ((sI σ 165 xs2.toNatClampNeg (xs1 - xs0)).1 161 7)).1 161 7) + 1)).1 161 0) - 1).toNatClampNeg)) (0 : Int32)).bind fun r_4 => if r_4.1 < 0 then (fL_law_799 N xs Lx rec221 r_4.2 x21 x24 0) else (fL_law_799 N xs Lx rec221 r_4.2 x21 x24 1))))
set_option maxRecDepth 100000 in
set_option maxHeartbeats 1000000 in
theorem wL_law_750 {rec221 : (gS × Int32 × Int32) → Option Int32} {σ : gS} {x21 : Int32} {x24 : Int32} {xs0 : Int32} {xs1 : Int32} {xs2 : Int32} {ad : Nat → Nat} {kc ns : Nat} (hx : p.tables.exec = Jvm.exec) (hb : c.code = cL_law) (hr : meth.sig.returnType = (some .boolean)) (hml : c.maxLocals = 37) (hown : s.vm.findClass RL = some m.cls) (hg : ∀ w ∈ wsL_law, w.before args s = true) (hlocks : meth.locks = false) (hK : gK D y aS s) (hA : ∀ q, s.heap.size ≤ q → A q) (hL : ∀ k, k < 179 → k ∈ L) (hfl : l.stackTraces = false) (hZ : gZ A s s.heap) (hX : va_X b Lx xs s s.heap) (hbl : b < s.heap.size) (hA2 : ∀ q, A q → s.heap.size ≤ q) (hres : res = 1) (hL2 : ∀ k ∈ L, k < 179) (hrec221 : ∀ {ad : Nat → Nat} {kc ns : Nat} {σ9 : gS} {x20n9 : Int32} {x21n9 : Int32} (hkc : kc ≤ 183 + 643 * x21n9.toInt.toNat + 0) (hns : ns ≤ 3391 + 81814 * x21n9.toInt.toNat + 0) (hi0 : 0 ≤ x21n9.toInt) (hi8 : x21n9.toInt ≤ 80) (H : Heap) (locs : List Loc) (ls : Array Slot), gY D y A s L ad σ9 H locs → lv_has ls 37 [(0, .ref b), (1, .ref (ad 0)), (2, .ref (ad 161)), (3, .ref (ad 162)), (4, .ref (ad 163)), (5, .ref (ad 164)), (6, .ref (ad 165)), (7, .ref (ad 166)), (8, .ref (ad 167)), (9, .ref (ad 168)), (10, .ref (ad 169)), (11, .ref (ad 170)), (12, .ref (ad 171)), (13, .ref (ad 172)), (14, .ref (ad 173)), (15, .ref (ad 174)), (16, .ref (ad 175)), (17, .ref (ad 176)), (18, .ref (ad 177)), (19, .ref (ad 178)), (20, .int x20n9), (21, .int x21n9)] → rec221 (σ9, x20n9, x21n9) = some res → W p l e room_1 s m args below meth c H locs kc ns (lw_Z below args s) (F0 m 221 ls [])) (hkc : kc ≤ 183 + 643 * x21.toInt.toNat + 4) (hns : ns ≤ 3391 + 81814 * x21.toInt.toNat + 24) (hi0 : 0 ≤ x21.toInt) (hi8 : x21.toInt < 80) {H : Heap} {locs : List Loc} {ls : Array Slot} (hY : gY D y A s L ad σ H locs) (hl : lv_has ls 37 [(0, .ref b), (1, .ref (ad 0)), (2, .ref (ad 161)), (3, .ref (ad 162)), (4, .ref (ad 163)), (5, .ref (ad 164)), (6, .ref (ad 165)), (7, .ref (ad 166)), (8, .ref (ad 167)), (9, .ref (ad 168)), (10, .ref (ad 169)), (11, .ref (ad 170)), (12, .ref (ad 171)), (13, .ref (ad 172)), (14, .ref (ad 173)), (15, .ref (ad 174)), (16, .ref (ad 175)), (17, .ref (ad 176)), (18, .ref (ad 177)), (19, .ref (ad 178)), (21, .int x21), (24, .int x24)]) (h : fL_law_750 N xs Lx rec221 σ x21 x24 xs0 xs1 xs2 = some res) : W p l e room_1 s m args below meth c H locs kc ns (lw_Z below args s) (F0 m 750 ls [.int xs0, .int xs1, .int xs2, .ref (ad 165)]) := by
  unfold fL_law_750 at h
  refine lv_isub hx hb dL_law_750 ?_
  obtain ⟨z_1, h⟩ := g_guard h
  refine G_iast (j := xs2.toNatClampNeg) hx hb hK hY (hL 165 (by decide)) gk_165 (by rw [gl_165]; exact z_1) rfl dL_law_751 ?_
  clear hY
  intro H locs hY
  refine lv_aload hx hb dL_law_752 (lv_at hl 7 rfl) ?_
  refine lv_aload_n hx hb dL_law_754 rfl (lv_at hl 2 rfl) ?_
  refine lv_iconst (v := 0) hx hb dL_law_755 (by decide) ?_
  refine G_iald (j := 0) hx hb hK hY (hL 161 (by decide)) gk_161 (by rw [gl_161]; decide +kernel) (by decide +kernel) dL_law_756 ?_
  refine lv_iconst (v := 1) hx hb dL_law_757 (by decide) ?_
  refine lv_isub hx hb dL_law_758 ?_
  refine lv_aload_n hx hb dL_law_759 rfl (lv_at hl 2 rfl) ?_
  refine lv_bipush (v := 7) hx hb dL_law_760 (by decide +kernel) ?_
  refine G_iald (j := 7) hx hb hK hY (hL 161 (by decide)) gk_161 (by rw [gl_161]; decide +kernel) (by decide +kernel) dL_law_762 ?_
  obtain ⟨z_2, h⟩ := g_guard h
  refine G_iast (j := (((sI σ 165 xs2.toNatClampNeg (xs1 - xs0)).1 161 0) - 1).toNatClampNeg) hx hb hK hY (hL 166 (by decide)) gk_166 (by rw [gl_166]; exact z_2) rfl dL_law_763 ?_
  clear hY
  intro H locs hY
  refine lv_aload_n hx hb dL_law_764 rfl (lv_at hl 2 rfl) ?_
  refine lv_bipush (v := 7) hx hb dL_law_765 (by decide +kernel) ?_
  refine lv_dup2_11 hx hb dL_law_767 rfl rfl ?_
  refine G_iald (j := 7) hx hb hK hY (hL 161 (by decide)) gk_161 (by rw [gl_161]; decide +kernel) (by decide +kernel) dL_law_768 ?_
  refine lv_iconst (v := 1) hx hb dL_law_769 (by decide) ?_
  refine lv_iadd hx hb dL_law_770 ?_
  refine G_iast (j := 7) hx hb hK hY (hL 161 (by decide)) gk_161 (by rw [gl_161]; decide +kernel) (by decide +kernel) dL_law_771 ?_
  clear hY
  intro H locs hY
  refine lv_aload_n hx hb dL_law_772 rfl (lv_at hl 1 rfl) ?_
  refine lv_iconst (v := 4) hx hb dL_law_773 (by decide) ?_
  refine lv_aload_n hx hb dL_law_774 rfl (lv_at hl 2 rfl) ?_
  refine lv_iconst (v := 0) hx hb dL_law_775 (by decide) ?_
  refine G_iald (j := 0) hx hb hK hY (hL 161 (by decide)) gk_161 (by rw [gl_161]; decide +kernel) (by decide +kernel) dL_law_776 ?_
  refine lv_iconst (v := 1) hx hb dL_law_777 (by decide) ?_
  refine lv_isub hx hb dL_law_778 ?_
  refine lv_aload hx hb dL_law_779 (lv_at hl 6 rfl) ?_
  refine lv_aload_n hx hb dL_law_781 rfl (lv_at hl 2 rfl) ?_
  refine lv_iconst (v := 0) hx hb dL_law_782 (by decide) ?_
  refine G_iald (j := 0) hx hb hK hY (hL 161 (by decide)) gk_161 (by rw [gl_161]; decide +kernel) (by decide +kernel) dL_law_783 ?_
  refine lv_iconst (v := 1) hx hb dL_law_784 (by decide) ?_
  refine lv_isub hx hb dL_law_785 ?_
  obtain ⟨z_3, h⟩ := g_guard h
  refine G_iald (j := (((sI (sI (sI σ 165 xs2.toNatClampNeg (xs1 - xs0)) 166 ((((sI σ 165 xs2.toNatClampNeg (xs1 - xs0)).1 161 0) - 1).toNatClampNeg) ((sI σ 165 xs2.toNatClampNeg (xs1 - xs0)).1 161 7)) 161 7 (((sI (sI σ 165 xs2.toNatClampNeg (xs1 - xs0)) 166 ((((sI σ 165 xs2.toNatClampNeg (xs1 - xs0)).1 161 0) - 1).toNatClampNeg) ((sI σ 165 xs2.toNatClampNeg (xs1 - xs0)).1 161 7)).1 161 7) + 1)).1 161 0) - 1).toNatClampNeg) hx hb hK hY (hL 165 (by decide)) gk_165 (by rw [gl_165]; exact z_3) rfl dL_law_786 ?_
  refine lv_iconst (v := 0) hx hb dL_law_787 (by decide) ?_
  obtain ⟨r_4, e_5, h⟩ := g_bind h
  refine G_aiC hY hA (vx_runSW (As := [.ref (ad 0), .int 4, .int (((sI (sI (sI σ 165 xs2.toNatClampNeg (xs1 - xs0)) 166 ((((sI σ 165 xs2.toNatClampNeg (xs1 - xs0)).1 161 0) - 1).toNatClampNeg) ((sI σ 165 xs2.toNatClampNeg (xs1 - xs0)).1 161 7)) 161 7 (((sI (sI σ 165 xs2.toNatClampNeg (xs1 - xs0)) 166 ((((sI σ 165 xs2.toNatClampNeg (xs1 - xs0)).1 161 0) - 1).toNatClampNeg) ((sI σ 165 xs2.toNatClampNeg (xs1 - xs0)).1 161 7)).1 161 7) + 1)).1 161 0) - 1), .int ((sI (sI (sI σ 165 xs2.toNatClampNeg (xs1 - xs0)) 166 ((((sI σ 165 xs2.toNatClampNeg (xs1 - xs0)).1 161 0) - 1).toNatClampNeg) ((sI σ 165 xs2.toNatClampNeg (xs1 - xs0)).1 161 7)) 161 7 (((sI (sI σ 165 xs2.toNatClampNeg (xs1 - xs0)) 166 ((((sI σ 165 xs2.toNatClampNeg (xs1 - xs0)).1 161 0) - 1).toNatClampNeg) ((sI σ 165 xs2.toNatClampNeg (xs1 - xs0)).1 161 7)).1 161 7) + 1)).1 165 ((((sI (sI (sI σ 165 xs2.toNatClampNeg (xs1 - xs0)) 166 ((((sI σ 165 xs2.toNatClampNeg (xs1 - xs0)).1 161 0) - 1).toNatClampNeg) ((sI σ 165 xs2.toNatClampNeg (xs1 - xs0)).1 161 7)) 161 7 (((sI (sI σ 165 xs2.toNatClampNeg (xs1 - xs0)) 166 ((((sI σ 165 xs2.toNatClampNeg (xs1 - xs0)).1 161 0) - 1).toNatClampNeg) ((sI σ 165 xs2.toNatClampNeg (xs1 - xs0)).1 161 7)).1 161 7) + 1)).1 161 0) - 1).toNatClampNeg)), .int 0]) (rest := []) ⟨hx, hb, hml, hown, hg⟩ (kL_does l hfl D y aS H.size L hL ad N (sI (sI (sI σ 165 xs2.toNatClampNeg (xs1 - xs0)) 166 ((((sI σ 165 xs2.toNatClampNeg (xs1 - xs0)).1 161 0) - 1).toNatClampNeg) ((sI σ 165 xs2.toNatClampNeg (xs1 - xs0)).1 161 7)) 161 7 (((sI (sI σ 165 xs2.toNatClampNeg (xs1 - xs0)) 166 ((((sI σ 165 xs2.toNatClampNeg (xs1 - xs0)).1 161 0) - 1).toNatClampNeg) ((sI σ 165 xs2.toNatClampNeg (xs1 - xs0)).1 161 7)).1 161 7) + 1)) (4 : Int32) (((sI (sI (sI σ 165 xs2.toNatClampNeg (xs1 - xs0)) 166 ((((sI σ 165 xs2.toNatClampNeg (xs1 - xs0)).1 161 0) - 1).toNatClampNeg) ((sI σ 165 xs2.toNatClampNeg (xs1 - xs0)).1 161 7)) 161 7 (((sI (sI σ 165 xs2.toNatClampNeg (xs1 - xs0)) 166 ((((sI σ 165 xs2.toNatClampNeg (xs1 - xs0)).1 161 0) - 1).toNatClampNeg) ((sI σ 165 xs2.toNatClampNeg (xs1 - xs0)).1 161 7)).1 161 7) + 1)).1 161 0) - 1) ((sI (sI (sI σ 165 xs2.toNatClampNeg (xs1 - xs0)) 166 ((((sI σ 165 xs2.toNatClampNeg (xs1 - xs0)).1 161 0) - 1).toNatClampNeg) ((sI σ 165 xs2.toNatClampNeg (xs1 - xs0)).1 161 7)) 161 7 (((sI (sI σ 165 xs2.toNatClampNeg (xs1 - xs0)) 166 ((((sI σ 165 xs2.toNatClampNeg (xs1 - xs0)).1 161 0) - 1).toNatClampNeg) ((sI σ 165 xs2.toNatClampNeg (xs1 - xs0)).1 161 7)).1 161 7) + 1)).1 165 ((((sI (sI (sI σ 165 xs2.toNatClampNeg (xs1 - xs0)) 166 ((((sI σ 165 xs2.toNatClampNeg (xs1 - xs0)).1 161 0) - 1).toNatClampNeg) ((sI σ 165 xs2.toNatClampNeg (xs1 - xs0)).1 161 7)) 161 7 (((sI (sI σ 165 xs2.toNatClampNeg (xs1 - xs0)) 166 ((((sI σ 165 xs2.toNatClampNeg (xs1 - xs0)).1 161 0) - 1).toNatClampNeg) ((sI σ 165 xs2.toNatClampNeg (xs1 - xs0)).1 161 7)).1 161 7) + 1)).1 161 0) - 1).toNatClampNeg)) (0 : Int32) _ e_5) (vx_cwSW 5 hg ggS_RL_161_L_does rfl rfl rfl (by decide +kernel) ⟨Nat.le_of_ble_eq_true rfl, Nat.le_of_ble_eq_true rfl⟩) (G_xpS hZ hA hK hY) rfl rfl hl.1 rfl (lv_room (Nat.le_of_ble_eq_true rfl)) dL_law_788 ⟨(by first | omega | (show _ ≤ (600086 : Nat); omega) | (show _ ≤ (7301442 : Nat); omega)), (by first | omega | (show _ ≤ (600086 : Nat); omega) | (show _ ≤ (7301442 : Nat); omega))⟩) ?_
  clear hY
  rintro _ H locs rfl hY
  refine lv_if_lt (tgt := 798) hx hb dL_law_791 (by decide) (fun z_6 => ?_) (fun z_6 => ?_)
  ·
    rw [if_pos z_6] at h
    have qz_6 := g_ltt z_6; (try simp only [g_l0, g_l3, g_l6, g_l80] at qz_6)
    refine lv_iconst (v := 0) hx hb dL_law_798 (by decide) ?_
    exact wL_law_799 hx hb hr hml hown hg hlocks hK hA hL hfl hZ hX hbl hA2 hres hL2 hrec221 (by first | omega | (simp only [g_l0]; omega)) (by first | omega | (simp only [g_l0]; omega)) (by first | omega | (simp only [g_l0]; omega)) (by first | omega | (simp only [g_l0]; omega)) hY (lv_sub hl [0, 1, 2, 3, 4, 5, 6, 7, 8, 9, 10, 11, 12, 13, 14, 15, 16, 17, 18, 19, 20, 21] rfl) h
  ·
    rw [if_neg z_6] at h
    have qz_6 := g_ltf z_6; (try simp only [g_l0, g_l3, g_l6, g_l80] at qz_6)
    refine lv_iconst (v := 1) hx hb dL_law_794 (by decide) ?_
    refine lv_goto (tgt := 799) hx hb dL_law_795 (by decide) ?_
    exact wL_law_799 hx hb hr hml hown hg hlocks hK hA hL hfl hZ hX hbl hA2 hres hL2 hrec221 (by first | omega | (simp only [g_l0]; omega)) (by first | omega | (simp only [g_l0]; omega)) (by first | omega | (simp only [g_l0]; omega)) (by first | omega | (simp only [g_l0]; omega)) hY (lv_sub hl [0, 1, 2, 3, 4, 5, 6, 7, 8, 9, 10, 11, 12, 13, 14, 15, 16, 17, 18, 19, 20, 21] rfl) h
def fL_law_713 (N : Nat) (xs : Nat → Int32) (Lx : Nat) (rec221 : (gS × Int32 × Int32) → Option Int32) (σ : gS) (x21 : Int32) (x24 : Int32) : Option Int32 := if ((σ.1 161 0) - 1) < 0 ∨ 24 ≤ ((σ.1 161 0) - 1).toNatClampNeg then none else (if ((x24 / 5) - (x24 / 5) / 4 * 4) ≤ 3 then (fL_law_750 N xs Lx rec221 (sI σ 164 (((σ.1 161 0) - 1).toNatClampNeg) 1) x21 x24 0 ((x24 / 5) - (x24 / 5) / 4 * 4) (((sI σ 164 (((σ.1 161 0) - 1).toNatClampNeg) 1).1 161 0) - 1)) else (fL_law_750 N xs Lx rec221 (sI σ 164 (((σ.1 161 0) - 1).toNatClampNeg) 1) x21 x24 1 ((x24 / 5) - (x24 / 5) / 4 * 4) (((sI σ 164 (((σ.1 161 0) - 1).toNatClampNeg) 1).1 161 0) - 1)))
set_option maxRecDepth 100000 in
set_option maxHeartbeats 1000000 in
theorem wL_law_713 {rec221 : (gS × Int32 × Int32) → Option Int32} {σ : gS} {x21 : Int32} {x24 : Int32} {ad : Nat → Nat} {kc ns : Nat} (hx : p.tables.exec = Jvm.exec) (hb : c.code = cL_law) (hr : meth.sig.returnType = (some .boolean)) (hml : c.maxLocals = 37) (hown : s.vm.findClass RL = some m.cls) (hg : ∀ w ∈ wsL_law, w.before args s = true) (hlocks : meth.locks = false) (hK : gK D y aS s) (hA : ∀ q, s.heap.size ≤ q → A q) (hL : ∀ k, k < 179 → k ∈ L) (hfl : l.stackTraces = false) (hZ : gZ A s s.heap) (hX : va_X b Lx xs s s.heap) (hbl : b < s.heap.size) (hA2 : ∀ q, A q → s.heap.size ≤ q) (hres : res = 1) (hL2 : ∀ k ∈ L, k < 179) (hrec221 : ∀ {ad : Nat → Nat} {kc ns : Nat} {σ9 : gS} {x20n9 : Int32} {x21n9 : Int32} (hkc : kc ≤ 183 + 643 * x21n9.toInt.toNat + 0) (hns : ns ≤ 3391 + 81814 * x21n9.toInt.toNat + 0) (hi0 : 0 ≤ x21n9.toInt) (hi8 : x21n9.toInt ≤ 80) (H : Heap) (locs : List Loc) (ls : Array Slot), gY D y A s L ad σ9 H locs → lv_has ls 37 [(0, .ref b), (1, .ref (ad 0)), (2, .ref (ad 161)), (3, .ref (ad 162)), (4, .ref (ad 163)), (5, .ref (ad 164)), (6, .ref (ad 165)), (7, .ref (ad 166)), (8, .ref (ad 167)), (9, .ref (ad 168)), (10, .ref (ad 169)), (11, .ref (ad 170)), (12, .ref (ad 171)), (13, .ref (ad 172)), (14, .ref (ad 173)), (15, .ref (ad 174)), (16, .ref (ad 175)), (17, .ref (ad 176)), (18, .ref (ad 177)), (19, .ref (ad 178)), (20, .int x20n9), (21, .int x21n9)] → rec221 (σ9, x20n9, x21n9) = some res → W p l e room_1 s m args below meth c H locs kc ns (lw_Z below args s) (F0 m 221 ls [])) (hkc : kc ≤ 183 + 643 * x21.toInt.toNat + 4) (hns : ns ≤ 3391 + 81814 * x21.toInt.toNat + 24) (hi0 : 0 ≤ x21.toInt) (hi8 : x21.toInt < 80) {H : Heap} {locs : List Loc} {ls : Array Slot} (hY : gY D y A s L ad σ H locs) (hl : lv_has ls 37 [(0, .ref b), (1, .ref (ad 0)), (2, .ref (ad 161)), (3, .ref (ad 162)), (4, .ref (ad 163)), (5, .ref (ad 164)), (6, .ref (ad 165)), (7, .ref (ad 166)), (8, .ref (ad 167)), (9, .ref (ad 168)), (10, .ref (ad 169)), (11, .ref (ad 170)), (12, .ref (ad 171)), (13, .ref (ad 172)), (14, .ref (ad 173)), (15, .ref (ad 174)), (16, .ref (ad 175)), (17, .ref (ad 176)), (18, .ref (ad 177)), (19, .ref (ad 178)), (21, .int x21), (24, .int x24)]) (h : fL_law_713 N xs Lx rec221 σ x21 x24 = some res) : W p l e room_1 s m args below meth c H locs kc ns (lw_Z below args s) (F0 m 713 ls []) := by
  unfold fL_law_713 at h
  refine lv_aload hx hb dL_law_713 (lv_at hl 5 rfl) ?_
  refine lv_aload_n hx hb dL_law_715 rfl (lv_at hl 2 rfl) ?_
  refine lv_iconst (v := 0) hx hb dL_law_716 (by decide) ?_
  refine G_iald (j := 0) hx hb hK hY (hL 161 (by decide)) gk_161 (by rw [gl_161]; decide +kernel) (by decide +kernel) dL_law_717 ?_
  refine lv_iconst (v := 1) hx hb dL_law_718 (by decide) ?_
  refine lv_isub hx hb dL_law_719 ?_
  refine lv_iconst (v := 1) hx hb dL_law_720 (by decide) ?_
  obtain ⟨z_1, h⟩ := g_guard h
  refine G_iast (j := ((σ.1 161 0) - 1).toNatClampNeg) hx hb hK hY (hL 164 (by decide)) gk_164 (by rw [gl_164]; exact z_1) rfl dL_law_721 ?_
  clear hY
  intro H locs hY
  refine lv_aload hx hb dL_law_722 (lv_at hl 6 rfl) ?_
  refine lv_aload_n hx hb dL_law_724 rfl (lv_at hl 2 rfl) ?_
  refine lv_iconst (v := 0) hx hb dL_law_725 (by decide) ?_
  refine G_iald (j := 0) hx hb hK hY (hL 161 (by decide)) gk_161 (by rw [gl_161]; decide +kernel) (by decide +kernel) dL_law_726 ?_
  refine lv_iconst (v := 1) hx hb dL_law_727 (by decide) ?_
  refine lv_isub hx hb dL_law_728 ?_
  refine lv_iload hx hb dL_law_729 (lv_at hl 21 rfl) ?_
  refine lv_iconst (v := 5) hx hb dL_law_731 (by decide) ?_
  refine lv_idiv hx hb dL_law_732 (by decide +kernel) ?_
  refine lv_iconst (v := 4) hx hb dL_law_733 (by decide) ?_
  refine lv_irem hx hb dL_law_734 (by decide +kernel) ?_
  refine lv_iload hx hb dL_law_735 (lv_at hl 21 rfl) ?_
  refine lv_iconst (v := 5) hx hb dL_law_737 (by decide) ?_
  refine lv_idiv hx hb dL_law_738 (by decide +kernel) ?_
  refine lv_iconst (v := 4) hx hb dL_law_739 (by decide) ?_
  refine lv_irem hx hb dL_law_740 (by decide +kernel) ?_
  refine lv_iconst (v := 3) hx hb dL_law_741 (by decide) ?_
  refine lv_icmp_le (tgt := 749) hx hb dL_law_742 (by decide) (fun z_2 => ?_) (fun z_2 => ?_)
  ·
    rw [if_pos z_2] at h
    have qz_2 := g_let z_2; (try simp only [g_l0, g_l3, g_l6, g_l80] at qz_2)
    refine lv_iconst (v := 0) hx hb dL_law_749 (by decide) ?_
    exact wL_law_750 hx hb hr hml hown hg hlocks hK hA hL hfl hZ hX hbl hA2 hres hL2 hrec221 (by first | omega | (simp only [g_l0]; omega)) (by first | omega | (simp only [g_l0]; omega)) (by first | omega | (simp only [g_l0]; omega)) (by first | omega | (simp only [g_l0]; omega)) hY (lv_sub hl [0, 1, 2, 3, 4, 5, 6, 7, 8, 9, 10, 11, 12, 13, 14, 15, 16, 17, 18, 19, 20, 21] rfl) h
  ·
    rw [if_neg z_2] at h
    have qz_2 := g_lef z_2; (try simp only [g_l0, g_l3, g_l6, g_l80] at qz_2)
    refine lv_iconst (v := 1) hx hb dL_law_745 (by decide) ?_
    refine lv_goto (tgt := 750) hx hb dL_law_746 (by decide) ?_
    exact wL_law_750 hx hb hr hml hown hg hlocks hK hA hL hfl hZ hX hbl hA2 hres hL2 hrec221 (by first | omega | (simp only [g_l0]; omega)) (by first | omega | (simp only [g_l0]; omega)) (by first | omega | (simp only [g_l0]; omega)) (by first | omega | (simp only [g_l0]; omega)) hY (lv_sub hl [0, 1, 2, 3, 4, 5, 6, 7, 8, 9, 10, 11, 12, 13, 14, 15, 16, 17, 18, 19, 20, 21] rfl) h
def fL_law_672 (N : Nat) (xs : Nat → Int32) (Lx : Nat) (rec221 : (gS × Int32 × Int32) → Option Int32) (σ : gS) (x20 : Int32) (x21 : Int32) (x24 : Int32) (x29 : Int32) (xs0 : Int64) (xs1 : Int32) : Option Int32 := if xs1 < 0 ∨ 24 ≤ xs1.toNatClampNeg then none else (if ((sJ σ 170 xs1.toNatClampNeg xs0).1 161 0) < 0 ∨ 24 ≤ ((sJ σ 170 xs1.toNatClampNeg xs0).1 161 0).toNatClampNeg then none else (if x20 = 0 then (fL_law_801 N xs Lx rec221 (sI (sI (sJ σ 170 xs1.toNatClampNeg xs0) 167 (((sJ σ 170 xs1.toNatClampNeg xs0).1 161 0).toNatClampNeg) (-1)) 161 0 (((sI (sJ σ 170 xs1.toNatClampNeg xs0) 167 (((sJ σ 170 xs1.toNatClampNeg xs0).1 161 0).toNatClampNeg) (-1)).1 161 0) + 1)) x20 x21 x24) else (if (x24 - x24 / 5 * 5) ≤ 0 then (fL_law_801 N xs Lx rec221 (sI (sI (sJ σ 170 xs1.toNatClampNeg xs0) 167 (((sJ σ 170 xs1.toNatClampNeg xs0).1 161 0).toNatClampNeg) (-1)) 161 0 (((sI (sJ σ 170 xs1.toNatClampNeg xs0) 167 (((sJ σ 170 xs1.toNatClampNeg xs0).1 161 0).toNatClampNeg) (-1)).1 161 0) + 1)) x20 x21 x24) else (if x29 < 0 then (fL_law_713 N xs Lx rec221 (sI (sI (sJ σ 170 xs1.toNatClampNeg xs0) 167 (((sJ σ 170 xs1.toNatClampNeg xs0).1 161 0).toNatClampNeg) (-1)) 161 0 (((sI (sJ σ 170 xs1.toNatClampNeg xs0) 167 (((sJ σ 170 xs1.toNatClampNeg xs0).1 161 0).toNatClampNeg) (-1)).1 161 0) + 1)) x21 x24) else (if x29 < 0 ∨ 24 ≤ x29.toNatClampNeg then none else (if ((sI (sI (sJ σ 170 xs1.toNatClampNeg xs0) 167 (((sJ σ 170 xs1.toNatClampNeg xs0).1 161 0).toNatClampNeg) (-1)) 161 0 (((sI (sJ σ 170 xs1.toNatClampNeg xs0) 167 (((sJ σ 170 xs1.toNatClampNeg xs0).1 161 0).toNatClampNeg) (-1)).1 161 0) + 1)).1 164 x29.toNatClampNeg) = 1 then (fL_law_713 N xs Lx rec221 (sI (sI (sJ σ 170 xs1.toNatClampNeg xs0) 167 (((sJ σ 170 xs1.toNatClampNeg xs0).1 161 0).toNatClampNeg) (-1)) 161 0 (((sI (sJ σ 170 xs1.toNatClampNeg xs0) 167 (((sJ σ 170 xs1.toNatClampNeg xs0).1 161 0).toNatClampNeg) (-1)).1 161 0) + 1)) x21 x24) else (fL_law_801 N xs Lx rec221 (sI (sI (sJ σ 170 xs1.toNatClampNeg xs0) 167 (((sJ σ 170 xs1.toNatClampNeg xs0).1 161 0).toNatClampNeg) (-1)) 161 0 (((sI (sJ σ 170 xs1.toNatClampNeg xs0) 167 (((sJ σ 170 xs1.toNatClampNeg xs0).1 161 0).toNatClampNeg) (-1)).1 161 0) + 1)) x20 x21 x24)))))))
set_option maxRecDepth 100000 in
set_option maxHeartbeats 1000000 in
theorem wL_law_672 {rec221 : (gS × Int32 × Int32) → Option Int32} {σ : gS} {x20 : Int32} {x21 : Int32} {x24 : Int32} {x29 : Int32} {xs0 : Int64} {xs1 : Int32} {ad : Nat → Nat} {kc ns : Nat} (hx : p.tables.exec = Jvm.exec) (hb : c.code = cL_law) (hr : meth.sig.returnType = (some .boolean)) (hml : c.maxLocals = 37) (hown : s.vm.findClass RL = some m.cls) (hg : ∀ w ∈ wsL_law, w.before args s = true) (hlocks : meth.locks = false) (hK : gK D y aS s) (hA : ∀ q, s.heap.size ≤ q → A q) (hL : ∀ k, k < 179 → k ∈ L) (hfl : l.stackTraces = false) (hZ : gZ A s s.heap) (hX : va_X b Lx xs s s.heap) (hbl : b < s.heap.size) (hA2 : ∀ q, A q → s.heap.size ≤ q) (hres : res = 1) (hL2 : ∀ k ∈ L, k < 179) (hrec221 : ∀ {ad : Nat → Nat} {kc ns : Nat} {σ9 : gS} {x20n9 : Int32} {x21n9 : Int32} (hkc : kc ≤ 183 + 643 * x21n9.toInt.toNat + 0) (hns : ns ≤ 3391 + 81814 * x21n9.toInt.toNat + 0) (hi0 : 0 ≤ x21n9.toInt) (hi8 : x21n9.toInt ≤ 80) (H : Heap) (locs : List Loc) (ls : Array Slot), gY D y A s L ad σ9 H locs → lv_has ls 37 [(0, .ref b), (1, .ref (ad 0)), (2, .ref (ad 161)), (3, .ref (ad 162)), (4, .ref (ad 163)), (5, .ref (ad 164)), (6, .ref (ad 165)), (7, .ref (ad 166)), (8, .ref (ad 167)), (9, .ref (ad 168)), (10, .ref (ad 169)), (11, .ref (ad 170)), (12, .ref (ad 171)), (13, .ref (ad 172)), (14, .ref (ad 173)), (15, .ref (ad 174)), (16, .ref (ad 175)), (17, .ref (ad 176)), (18, .ref (ad 177)), (19, .ref (ad 178)), (20, .int x20n9), (21, .int x21n9)] → rec221 (σ9, x20n9, x21n9) = some res → W p l e room_1 s m args below meth c H locs kc ns (lw_Z below args s) (F0 m 221 ls [])) (hkc : kc ≤ 183 + 643 * x21.toInt.toNat + 4) (hns : ns ≤ 3391 + 81814 * x21.toInt.toNat + 24) (hi0 : 0 ≤ x21.toInt) (hi8 : x21.toInt < 80) {H : Heap} {locs : List Loc} {ls : Array Slot} (hY : gY D y A s L ad σ H locs) (hl : lv_has ls 37 [(0, .ref b), (1, .ref (ad 0)), (2, .ref (ad 161)), (3, .ref (ad 162)), (4, .ref (ad 163)), (5, .ref (ad 164)), (6, .ref (ad 165)), (7, .ref (ad 166)), (8, .ref (ad 167)), (9, .ref (ad 168)), (10, .ref (ad 169)), (11, .ref (ad 170)), (12, .ref (ad 171)), (13, .ref (ad 172)), (14, .ref (ad 173)), (15, .ref (ad 174)), (16, .ref (ad 175)), (17, .ref (ad 176)), (18, .ref (ad 177)), (19, .ref (ad 178)), (20, .int x20), (21, .int x21), (24, .int x24), (29, .int x29)]) (h : fL_law_672 N xs Lx rec221 σ x20 x21 x24 x29 xs0 xs1 = some res) : W p l e room_1 s m args below meth c H locs kc ns (lw_Z below args s) (F0 m 672 ls [.long xs0, .int xs1, .ref (ad 170)]) := by
  unfold fL_law_672 at h
  obtain ⟨z_1, h⟩ := g_guard h
  refine G_last (j := xs1.toNatClampNeg) hx hb hK hY (hL 170 (by decide)) gk_170 (by rw [gl_170]; exact z_1) rfl dL_law_672 ?_
  clear hY
  intro H locs hY
  refine lv_aload hx hb dL_law_673 (lv_at hl 8 rfl) ?_
  refine lv_aload_n hx hb dL_law_675 rfl (lv_at hl 2 rfl) ?_
  refine lv_iconst (v := 0) hx hb dL_law_676 (by decide) ?_
  refine G_iald (j := 0) hx hb hK hY (hL 161 (by decide)) gk_161 (by rw [gl_161]; decide +kernel) (by decide +kernel) dL_law_677 ?_
  refine lv_iconst (v := (-1)) hx hb dL_law_678 (by decide) ?_
  obtain ⟨z_2, h⟩ := g_guard h
  refine G_iast (j := ((sJ σ 170 xs1.toNatClampNeg xs0).1 161 0).toNatClampNeg) hx hb hK hY (hL 167 (by decide)) gk_167 (by rw [gl_167]; exact z_2) rfl dL_law_679 ?_
  clear hY
  intro H locs hY
  refine lv_aload_n hx hb dL_law_680 rfl (lv_at hl 2 rfl) ?_
  refine lv_iconst (v := 0) hx hb dL_law_681 (by decide) ?_
  refine lv_dup2_11 hx hb dL_law_682 rfl rfl ?_
  refine G_iald (j := 0) hx hb hK hY (hL 161 (by decide)) gk_161 (by rw [gl_161]; decide +kernel) (by decide +kernel) dL_law_683 ?_
  refine lv_iconst (v := 1) hx hb dL_law_684 (by decide) ?_
  refine lv_iadd hx hb dL_law_685 ?_
  refine G_iast (j := 0) hx hb hK hY (hL 161 (by decide)) gk_161 (by rw [gl_161]; decide +kernel) (by decide +kernel) dL_law_686 ?_
  clear hY
  intro H locs hY
  refine lv_iload hx hb dL_law_687 (lv_at hl 20 rfl) ?_
  refine lv_if_eq (tgt := 801) hx hb dL_law_689 (by decide) (fun z_3 => ?_) (fun z_3 => ?_)
  ·
    rw [if_pos z_3] at h
    exact wL_law_801 hx hb hr hml hown hg hlocks hK hA hL hfl hZ hX hbl hA2 hres hL2 hrec221 (by first | omega | (simp only [g_l0]; omega)) (by first | omega | (simp only [g_l0]; omega)) (by first | omega | (simp only [g_l0]; omega)) (by first | omega | (simp only [g_l0]; omega)) hY (lv_sub hl [0, 1, 2, 3, 4, 5, 6, 7, 8, 9, 10, 11, 12, 13, 14, 15, 16, 17, 18, 19, 20, 21, 22] rfl) h
  ·
    rw [if_neg z_3] at h
    refine lv_iload hx hb dL_law_692 (lv_at hl 22 rfl) ?_
    refine lv_iconst (v := 5) hx hb dL_law_694 (by decide) ?_
    refine lv_irem hx hb dL_law_695 (by decide +kernel) ?_
    refine lv_if_le (tgt := 801) hx hb dL_law_696 (by decide) (fun z_4 => ?_) (fun z_4 => ?_)
    ·
      rw [if_pos z_4] at h
      have qz_4 := g_let z_4; (try simp only [g_l0, g_l3, g_l6, g_l80] at qz_4)
      exact wL_law_801 hx hb hr hml hown hg hlocks hK hA hL hfl hZ hX hbl hA2 hres hL2 hrec221 (by first | omega | (simp only [g_l0]; omega)) (by first | omega | (simp only [g_l0]; omega)) (by first | omega | (simp only [g_l0]; omega)) (by first | omega | (simp only [g_l0]; omega)) hY (lv_sub hl [0, 1, 2, 3, 4, 5, 6, 7, 8, 9, 10, 11, 12, 13, 14, 15, 16, 17, 18, 19, 20, 21, 22] rfl) h
    ·
      rw [if_neg z_4] at h
      have qz_4 := g_lef z_4; (try simp only [g_l0, g_l3, g_l6, g_l80] at qz_4)
      refine lv_iload hx hb dL_law_699 (lv_at hl 23 rfl) ?_
      refine lv_if_lt (tgt := 713) hx hb dL_law_701 (by decide) (fun z_5 => ?_) (fun z_5 => ?_)
      ·
        rw [if_pos z_5] at h
        have qz_5 := g_ltt z_5; (try simp only [g_l0, g_l3, g_l6, g_l80] at qz_5)
        exact wL_law_713 hx hb hr hml hown hg hlocks hK hA hL hfl hZ hX hbl hA2 hres hL2 hrec221 (by first | omega | (simp only [g_l0]; omega)) (by first | omega | (simp only [g_l0]; omega)) (by first | omega | (simp only [g_l0]; omega)) (by first | omega | (simp only [g_l0]; omega)) hY (lv_sub hl [0, 1, 2, 3, 4, 5, 6, 7, 8, 9, 10, 11, 12, 13, 14, 15, 16, 17, 18, 19, 21, 22] rfl) h
      ·
        rw [if_neg z_5] at h
        have qz_5 := g_ltf z_5; (try simp only [g_l0, g_l3, g_l6, g_l80] at qz_5)
        refine lv_aload hx hb dL_law_704 (lv_at hl 5 rfl) ?_
        refine lv_iload hx hb dL_law_706 (lv_at hl 23 rfl) ?_
        obtain ⟨z_6, h⟩ := g_guard h
        refine G_iald (j := x29.toNatClampNeg) hx hb hK hY (hL 164 (by decide)) gk_164 (by rw [gl_164]; exact z_6) rfl dL_law_708 ?_
        refine lv_iconst (v := 1) hx hb dL_law_709 (by decide) ?_
        refine lv_icmp_ne (tgt := 801) hx hb dL_law_710 (by decide) (fun z_7 => ?_) (fun z_7 => ?_)
        ·
          rw [if_neg z_7] at h
          exact wL_law_801 hx hb hr hml hown hg hlocks hK hA hL hfl hZ hX hbl hA2 hres hL2 hrec221 (by first | omega | (simp only [g_l0]; omega)) (by first | omega | (simp only [g_l0]; omega)) (by first | omega | (simp only [g_l0]; omega)) (by first | omega | (simp only [g_l0]; omega)) hY (lv_sub hl [0, 1, 2, 3, 4, 5, 6, 7, 8, 9, 10, 11, 12, 13, 14, 15, 16, 17, 18, 19, 20, 21, 22] rfl) h
        ·
          rw [if_pos z_7] at h
          exact wL_law_713 hx hb hr hml hown hg hlocks hK hA hL hfl hZ hX hbl hA2 hres hL2 hrec221 (by first | omega | (simp only [g_l0]; omega)) (by first | omega | (simp only [g_l0]; omega)) (by first | omega | (simp only [g_l0]; omega)) (by first | omega | (simp only [g_l0]; omega)) hY (lv_sub hl [0, 1, 2, 3, 4, 5, 6, 7, 8, 9, 10, 11, 12, 13, 14, 15, 16, 17, 18, 19, 21, 22] rfl) h
def fL_law_580 (N : Nat) (xs : Nat → Int32) (Lx : Nat) (rec221 : (gS × Int32 × Int32) → Option Int32) (σ : gS) (x21 : Int32) (x24 : Int32) (x28 : Int32) (x29 : Int32) (x30 : Int64) (x32 : Int32) (x33 : Int32) (x35 : Int32) (x36 : Int32) (xs0 : Int32) : Option Int32 := if (σ.1 161 0) < 0 ∨ 24 ≤ (σ.1 161 0).toNatClampNeg then none else (if ((sI σ 162 ((σ.1 161 0).toNatClampNeg) x28).1 161 0) < 0 ∨ 24 ≤ ((sI σ 162 ((σ.1 161 0).toNatClampNeg) x28).1 161 0).toNatClampNeg then none else (if ((sI (sI σ 162 ((σ.1 161 0).toNatClampNeg) x28) 163 (((sI σ 162 ((σ.1 161 0).toNatClampNeg) x28).1 161 0).toNatClampNeg) x29).1 161 0) < 0 ∨ 24 ≤ ((sI (sI σ 162 ((σ.1 161 0).toNatClampNeg) x28) 163 (((sI σ 162 ((σ.1 161 0).toNatClampNeg) x28).1 161 0).toNatClampNeg) x29).1 161 0).toNatClampNeg then none else (if ((sI (sI (sI σ 162 ((σ.1 161 0).toNatClampNeg) x28) 163 (((sI σ 162 ((σ.1 161 0).toNatClampNeg) x28).1 161 0).toNatClampNeg) x29) 168 (((sI (sI σ 162 ((σ.1 161 0).toNatClampNeg) x28) 163 (((sI σ 162 ((σ.1 161 0).toNatClampNeg) x28).1 161 0).toNatClampNeg) x29).1 161 0).toNatClampNeg) (((1 : Int32) <<< (x32 &&& 31)) ||| ((1 : Int32) <<< (x33 &&& 31)))).1 161 0) < 0 ∨ 24 ≤ ((sI (sI (sI σ 162 ((σ.1 161 0).toNatClampNeg) x28) 163 (((sI σ 162 ((σ.1 161 0).toNatClampNeg) x28).1 161 0).toNatClampNeg) x29) 168 (((sI (sI σ 162 ((σ.1 161 0).toNatClampNeg) x28) 163 (((sI σ 162 ((σ.1 161 0).toNatClampNeg) x28).1 161 0).toNatClampNeg) x29).1 161 0).toNatClampNeg) (((1 : Int32) <<< (x32 &&& 31)) ||| ((1 : Int32) <<< (x33 &&& 31)))).1 161 0).toNatClampNeg then none else (if ((sJ (sI (sI (sI σ 162 ((σ.1 161 0).toNatClampNeg) x28) 163 (((sI σ 162 ((σ.1 161 0).toNatClampNeg) x28).1 161 0).toNatClampNeg) x29) 168 (((sI (sI σ 162 ((σ.1 161 0).toNatClampNeg) x28) 163 (((sI σ 162 ((σ.1 161 0).toNatClampNeg) x28).1 161 0).toNatClampNeg) x29).1 161 0).toNatClampNeg) (((1 : Int32) <<< (x32 &&& 31)) ||| ((1 : Int32) <<< (x33 &&& 31)))) 169 (((sI (sI (sI σ 162 ((σ.1 161 0).toNatClampNeg) x28) 163 (((sI σ 162 ((σ.1 161 0).toNatClampNeg) x28).1 161 0).toNatClampNeg) x29) 168 (((sI (sI σ 162 ((σ.1 161 0).toNatClampNeg) x28) 163 (((sI σ 162 ((σ.1 161 0).toNatClampNeg) x28).1 161 0).toNatClampNeg) x29).1 161 0).toNatClampNeg) (((1 : Int32) <<< (x32 &&& 31)) ||| ((1 : Int32) <<< (x33 &&& 31)))).1 161 0).toNatClampNeg) x30).1 161 0) < 0 ∨ 24 ≤ ((sJ (sI (sI (sI σ 162 ((σ.1 161 0).toNatClampNeg) x28) 163 (((sI σ 162 ((σ.1 161 0).toNatClampNeg) x28).1 161 0).toNatClampNeg) x29) 168 (((sI (sI σ 162 ((σ.1 161 0).toNatClampNeg) x28) 163 (((sI σ 162 ((σ.1 161 0).toNatClampNeg) x28).1 161 0).toNatClampNeg) x29).1 161 0).toNatClampNeg) (((1 : Int32) <<< (x32 &&& 31)) ||| ((1 : Int32) <<< (x33 &&& 31)))) 169 (((sI (sI (sI σ 162 ((σ.1 161 0).toNatClampNeg) x28) 163 (((sI σ 162 ((σ.1 161 0).toNatClampNeg) x28).1 161 0).toNatClampNeg) x29) 168 (((sI (sI σ 162 ((σ.1 161 0).toNatClampNeg) x28) 163 (((sI σ 162 ((σ.1 161 0).toNatClampNeg) x28).1 161 0).toNatClampNeg) x29).1 161 0).toNatClampNeg) (((1 : Int32) <<< (x32 &&& 31)) ||| ((1 : Int32) <<< (x33 &&& 31)))).1 161 0).toNatClampNeg) x30).1 161 0).toNatClampNeg then none else (if x32 = x33 then (fL_law_672 N xs Lx rec221 (sJ (sJ (sI (sI (sI σ 162 ((σ.1 161 0).toNatClampNeg) x28) 163 (((sI σ 162 ((σ.1 161 0).toNatClampNeg) x28).1 161 0).toNatClampNeg) x29) 168 (((sI (sI σ 162 ((σ.1 161 0).toNatClampNeg) x28) 163 (((sI σ 162 ((σ.1 161 0).toNatClampNeg) x28).1 161 0).toNatClampNeg) x29).1 161 0).toNatClampNeg) (((1 : Int32) <<< (x32 &&& 31)) ||| ((1 : Int32) <<< (x33 &&& 31)))) 169 (((sI (sI (sI σ 162 ((σ.1 161 0).toNatClampNeg) x28) 163 (((sI σ 162 ((σ.1 161 0).toNatClampNeg) x28).1 161 0).toNatClampNeg) x29) 168 (((sI (sI σ 162 ((σ.1 161 0).toNatClampNeg) x28) 163 (((sI σ 162 ((σ.1 161 0).toNatClampNeg) x28).1 161 0).toNatClampNeg) x29).1 161 0).toNatClampNeg) (((1 : Int32) <<< (x32 &&& 31)) ||| ((1 : Int32) <<< (x33 &&& 31)))).1 161 0).toNatClampNeg) x30) 170 (((sJ (sI (sI (sI σ 162 ((σ.1 161 0).toNatClampNeg) x28) 163 (((sI σ 162 ((σ.1 161 0).toNatClampNeg) x28).1 161 0).toNatClampNeg) x29) 168 (((sI (sI σ 162 ((σ.1 161 0).toNatClampNeg) x28) 163 (((sI σ 162 ((σ.1 161 0).toNatClampNeg) x28).1 161 0).toNatClampNeg) x29).1 161 0).toNatClampNeg) (((1 : Int32) <<< (x32 &&& 31)) ||| ((1 : Int32) <<< (x33 &&& 31)))) 169 (((sI (sI (sI σ 162 ((σ.1 161 0).toNatClampNeg) x28) 163 (((sI σ 162 ((σ.1 161 0).toNatClampNeg) x28).1 161 0).toNatClampNeg) x29) 168 (((sI (sI σ 162 ((σ.1 161 0).toNatClampNeg) x28) 163 (((sI σ 162 ((σ.1 161 0).toNatClampNeg) x28).1 161 0).toNatClampNeg) x29).1 161 0).toNatClampNeg) (((1 : Int32) <<< (x32 &&& 31)) ||| ((1 : Int32) <<< (x33 &&& 31)))).1 161 0).toNatClampNeg) x30).1 161 0).toNatClampNeg) ((((x35.toInt64) <<< ((4 * x32).toInt64 &&& 63))) ||| (((x36.toInt64) <<< ((4 * x33).toInt64 &&& 63))))) xs0 x21 x24 x29 (((x35.toInt64) <<< ((4 * x32).toInt64 &&& 63))) ((sJ (sJ (sI (sI (sI σ 162 ((σ.1 161 0).toNatClampNeg) x28) 163 (((sI σ 162 ((σ.1 161 0).toNatClampNeg) x28).1 161 0).toNatClampNeg) x29) 168 (((sI (sI σ 162 ((σ.1 161 0).toNatClampNeg) x28) 163 (((sI σ 162 ((σ.1 161 0).toNatClampNeg) x28).1 161 0).toNatClampNeg) x29).1 161 0).toNatClampNeg) (((1 : Int32) <<< (x32 &&& 31)) ||| ((1 : Int32) <<< (x33 &&& 31)))) 169 (((sI (sI (sI σ 162 ((σ.1 161 0).toNatClampNeg) x28) 163 (((sI σ 162 ((σ.1 161 0).toNatClampNeg) x28).1 161 0).toNatClampNeg) x29) 168 (((sI (sI σ 162 ((σ.1 161 0).toNatClampNeg) x28) 163 (((sI σ 162 ((σ.1 161 0).toNatClampNeg) x28).1 161 0).toNatClampNeg) x29).1 161 0).toNatClampNeg) (((1 : Int32) <<< (x32 &&& 31)) ||| ((1 : Int32) <<< (x33 &&& 31)))).1 161 0).toNatClampNeg) x30) 170 (((sJ (sI (sI (sI σ 162 ((σ.1 161 0).toNatClampNeg) x28) 163 (((sI σ 162 ((σ.1 161 0).toNatClampNeg) x28).1 161 0).toNatClampNeg) x29) 168 (((sI (sI σ 162 ((σ.1 161 0).toNatClampNeg) x28) 163 (((sI σ 162 ((σ.1 161 0).toNatClampNeg) x28).1 161 0).toNatClampNeg) x29).1 161 0).toNatClampNeg) (((1 : Int32) <<< (x32 &&& 31)) ||| ((1 : Int32) <<< (x33 &&& 31)))) 169 (((sI (sI (sI σ 162 ((σ.1 161 0).toNatClampNeg) x28) 163 (((sI σ 162 ((σ.1 161 0).toNatClampNeg) x28).1 161 0).toNatClampNeg) x29) 168 (((sI (sI σ 162 ((σ.1 161 0).toNatClampNeg) x28) 163 (((sI σ 162 ((σ.1 161 0).toNatClampNeg) x28).1 161 0).toNatClampNeg) x29).1 161 0).toNatClampNeg) (((1 : Int32) <<< (x32 &&& 31)) ||| ((1 : Int32) <<< (x33 &&& 31)))).1 161 0).toNatClampNeg) x30).1 161 0).toNatClampNeg) ((((x35.toInt64) <<< ((4 * x32).toInt64 &&& 63))) ||| (((x36.toInt64) <<< ((4 * x33).toInt64 &&& 63))))).1 161 0)) else (if ((sJ (sJ (sI (sI (sI σ 162 ((σ.1 161 0).toNatClampNeg) x28) 163 (((sI σ 162 ((σ.1 161 0).toNatClampNeg) x28).1 161 0).toNatClampNeg) x29) 168 (((sI (sI σ 162 ((σ.1 161 0).toNatClampNeg) x28) 163 (((sI σ 162 ((σ.1 161 0).toNatClampNeg) x28).1 161 0).toNatClampNeg) x29).1 161 0).toNatClampNeg) (((1 : Int32) <<< (x32 &&& 31)) ||| ((1 : Int32) <<< (x33 &&& 31)))) 169 (((sI (sI (sI σ 162 ((σ.1 161 0).toNatClampNeg) x28) 163 (((sI σ 162 ((σ.1 161 0).toNatClampNeg) x28).1 161 0).toNatClampNeg) x29) 168 (((sI (sI σ 162 ((σ.1 161 0).toNatClampNeg) x28) 163 (((sI σ 162 ((σ.1 161 0).toNatClampNeg) x28).1 161 0).toNatClampNeg) x29).1 161 0).toNatClampNeg) (((1 : Int32) <<< (x32 &&& 31)) ||| ((1 : Int32) <<< (x33 &&& 31)))).1 161 0).toNatClampNeg) x30) 170 (((sJ (sI (sI (sI σ 162 ((σ.1 161 0).toNatClampNeg) x28) 163 (((sI σ 162 ((σ.1 161 0).toNatClampNeg) x28).1 161 0).toNatClampNeg) x29) 168 (((sI (sI σ 162 ((σ.1 161 0).toNatClampNeg) x28) 163 (((sI σ 162 ((σ.1 161 0).toNatClampNeg) x28).1 161 0).toNatClampNeg) x29).1 161 0).toNatClampNeg) (((1 : Int32) <<< (x32 &&& 31)) ||| ((1 : Int32) <<< (x33 &&& 31)))) 169 (((sI (sI (sI σ 162 ((σ.1 161 0).toNatClampNeg) x28) 163 (((sI σ 162 ((σ.1 161 0).toNatClampNeg) x28).1 161 0).toNatClampNeg) x29) 168 (((sI (sI σ 162 ((σ.1 161 0).toNatClampNeg) x28) 163 (((sI σ 162 ((σ.1 161 0).toNatClampNeg) x28).1 161 0).toNatClampNeg) x29).1 161 0).toNatClampNeg) (((1 : Int32) <<< (x32 &&& 31)) ||| ((1 : Int32) <<< (x33 &&& 31)))).1 161 0).toNatClampNeg) x30).1 161 0).toNatClampNeg) ((((x35.toInt64) <<< ((4 * x32).toInt64 &&& 63))) ||| (((x36.toInt64) <<< ((4 * x33).toInt64 &&& 63))))).1 161 0) < 0 ∨ 24 ≤ ((sJ (sJ (sI (sI (sI σ 162 ((σ.1 161 0).toNatClampNeg) x28) 163 (((sI σ 162 ((σ.1 161 0).toNatClampNeg) x28).1 161 0).toNatClampNeg) x29) 168 (((sI (sI σ 162 ((σ.1 161 0).toNatClampNeg) x28) 163 (((sI σ 162 ((σ.1 161 0).toNatClampNeg) x28).1 161 0).toNatClampNeg) x29).1 161 0).toNatClampNeg) (((1 : Int32) <<< (x32 &&& 31)) ||| ((1 : Int32) <<< (x33 &&& 31)))) 169 (((sI (sI (sI σ 162 ((σ.1 161 0).toNatClampNeg) x28) 163 (((sI σ 162 ((σ.1 161 0).toNatClampNeg) x28).1 161 0).toNatClampNeg) x29) 168 (((sI (sI σ 162 ((σ.1 161 0).toNatClampNeg) x28) 163 (((sI σ 162 ((σ.1 161 0).toNatClampNeg) x28).1 161 0).toNatClampNeg) x29).1 161 0).toNatClampNeg) (((1 : Int32) <<< (x32 &&& 31)) ||| ((1 : Int32) <<< (x33 &&& 31)))).1 161 0).toNatClampNeg) x30) 170 (((sJ (sI (sI (sI σ 162 ((σ.1 161 0).toNatClampNeg) x28) 163 (((sI σ 162 ((σ.1 161 0).toNatClampNeg) x28).1 161 0).toNatClampNeg) x29) 168 (((sI (sI σ 162 ((σ.1 161 0).toNatClampNeg) x28) 163 (((sI σ 162 ((σ.1 161 0).toNatClampNeg) x28).1 161 0).toNatClampNeg) x29).1 161 0).toNatClampNeg) (((1 : Int32) <<< (x32 &&& 31)) ||| ((1 : Int32) <<< (x33 &&& 31)))) 169 (((sI (sI (sI σ 162 ((σ.1 161 0).toNatClampNeg) x28) 163 (((sI σ 162 ((σ.1 161 0).toNatClampNeg) x28).1 161 0).toNatClampNeg) x29) 168 (((sI (sI σ 162 ((σ.1 161 0).toNatClampNeg) x28) 163 (((sI σ 162 ((σ.1 161 0).toNatClampNeg) x28).1 161 0).toNatClampNeg) x29).1 161 0).toNatClampNeg) (((1 : Int32) <<< (x32 &&& 31)) ||| ((1 : Int32) <<< (x33 &&& 31)))).1 161 0).toNatClampNeg) x30).1 161 0).toNatClampNeg) ((((x35.toInt64) <<< ((4 * x32).toInt64 &&& 63))) ||| (((x36.toInt64) <<< ((4 * x33).toInt64 &&& 63))))).1 161 0).toNatClampNeg then none else (fL_law_672 N xs Lx rec221 (sJ (sJ (sI (sI (sI σ 162 ((σ.1 161 0).toNatClampNeg) x28) 163 (((sI σ 162 ((σ.1 161 0).toNatClampNeg) x28).1 161 0).toNatClampNeg) x29) 168 (((sI (sI σ 162 ((σ.1 161 0).toNatClampNeg) x28) 163 (((sI σ 162 ((σ.1 161 0).toNatClampNeg) x28).1 161 0).toNatClampNeg) x29).1 161 0).toNatClampNeg) (((1 : Int32) <<< (x32 &&& 31)) ||| ((1 : Int32) <<< (x33 &&& 31)))) 169 (((sI (sI (sI σ 162 ((σ.1 161 0).toNatClampNeg) x28) 163 (((sI σ 162 ((σ.1 161 0).toNatClampNeg) x28).1 161 0).toNatClampNeg) x29) 168 (((sI (sI σ 162 ((σ.1 161 0).toNatClampNeg) x28) 163 (((sI σ 162 ((σ.1 161 0).toNatClampNeg) x28).1 161 0).toNatClampNeg) x29).1 161 0).toNatClampNeg) (((1 : Int32) <<< (x32 &&& 31)) ||| ((1 : Int32) <<< (x33 &&& 31)))).1 161 0).toNatClampNeg) x30) 170 (((sJ (sI (sI (sI σ 162 ((σ.1 161 0).toNatClampNeg) x28) 163 (((sI σ 162 ((σ.1 161 0).toNatClampNeg) x28).1 161 0).toNatClampNeg) x29) 168 (((sI (sI σ 162 ((σ.1 161 0).toNatClampNeg) x28) 163 (((sI σ 162 ((σ.1 161 0).toNatClampNeg) x28).1 161 0).toNatClampNeg) x29).1 161 0).toNatClampNeg) (((1 : Int32) <<< (x32 &&& 31)) ||| ((1 : Int32) <<< (x33 &&& 31)))) 169 (((sI (sI (sI σ 162 ((σ.1 161 0).toNatClampNeg) x28) 163 (((sI σ 162 ((σ.1 161 0).toNatClampNeg) x28).1 161 0).toNatClampNeg) x29) 168 (((sI (sI σ 162 ((σ.1 161 0).toNatClampNeg) x28) 163 (((sI σ 162 ((σ.1 161 0).toNatClampNeg) x28).1 161 0).toNatClampNeg) x29).1 161 0).toNatClampNeg) (((1 : Int32) <<< (x32 &&& 31)) ||| ((1 : Int32) <<< (x33 &&& 31)))).1 161 0).toNatClampNeg) x30).1 161 0).toNatClampNeg) ((((x35.toInt64) <<< ((4 * x32).toInt64 &&& 63))) ||| (((x36.toInt64) <<< ((4 * x33).toInt64 &&& 63))))) xs0 x21 x24 x29 ((sJ (sJ (sI (sI (sI σ 162 ((σ.1 161 0).toNatClampNeg) x28) 163 (((sI σ 162 ((σ.1 161 0).toNatClampNeg) x28).1 161 0).toNatClampNeg) x29) 168 (((sI (sI σ 162 ((σ.1 161 0).toNatClampNeg) x28) 163 (((sI σ 162 ((σ.1 161 0).toNatClampNeg) x28).1 161 0).toNatClampNeg) x29).1 161 0).toNatClampNeg) (((1 : Int32) <<< (x32 &&& 31)) ||| ((1 : Int32) <<< (x33 &&& 31)))) 169 (((sI (sI (sI σ 162 ((σ.1 161 0).toNatClampNeg) x28) 163 (((sI σ 162 ((σ.1 161 0).toNatClampNeg) x28).1 161 0).toNatClampNeg) x29) 168 (((sI (sI σ 162 ((σ.1 161 0).toNatClampNeg) x28) 163 (((sI σ 162 ((σ.1 161 0).toNatClampNeg) x28).1 161 0).toNatClampNeg) x29).1 161 0).toNatClampNeg) (((1 : Int32) <<< (x32 &&& 31)) ||| ((1 : Int32) <<< (x33 &&& 31)))).1 161 0).toNatClampNeg) x30) 170 (((sJ (sI (sI (sI σ 162 ((σ.1 161 0).toNatClampNeg) x28) 163 (((sI σ 162 ((σ.1 161 0).toNatClampNeg) x28).1 161 0).toNatClampNeg) x29) 168 (((sI (sI σ 162 ((σ.1 161 0).toNatClampNeg) x28) 163 (((sI σ 162 ((σ.1 161 0).toNatClampNeg) x28).1 161 0).toNatClampNeg) x29).1 161 0).toNatClampNeg) (((1 : Int32) <<< (x32 &&& 31)) ||| ((1 : Int32) <<< (x33 &&& 31)))) 169 (((sI (sI (sI σ 162 ((σ.1 161 0).toNatClampNeg) x28) 163 (((sI σ 162 ((σ.1 161 0).toNatClampNeg) x28).1 161 0).toNatClampNeg) x29) 168 (((sI (sI σ 162 ((σ.1 161 0).toNatClampNeg) x28) 163 (((sI σ 162 ((σ.1 161 0).toNatClampNeg) x28).1 161 0).toNatClampNeg) x29).1 161 0).toNatClampNeg) (((1 : Int32) <<< (x32 &&& 31)) ||| ((1 : Int32) <<< (x33 &&& 31)))).1 161 0).toNatClampNeg) x30).1 161 0).toNatClampNeg) ((((x35.toInt64) <<< ((4 * x32).toInt64 &&& 63))) ||| (((x36.toInt64) <<< ((4 * x33).toInt64 &&& 63))))).2.1 170 (((sJ (sJ (sI (sI (sI σ 162 ((σ.1 161 0).toNatClampNeg) x28) 163 (((sI σ 162 ((σ.1 161 0).toNatClampNeg) x28).1 161 0).toNatClampNeg) x29) 168 (((sI (sI σ 162 ((σ.1 161 0).toNatClampNeg) x28) 163 (((sI σ 162 ((σ.1 161 0).toNatClampNeg) x28).1 161 0).toNatClampNeg) x29).1 161 0).toNatClampNeg) (((1 : Int32) <<< (x32 &&& 31)) ||| ((1 : Int32) <<< (x33 &&& 31)))) 169 (((sI (sI (sI σ 162 ((σ.1 161 0).toNatClampNeg) x28) 163 (((sI σ 162 ((σ.1 161 0).toNatClampNeg) x28).1 161 0).toNatClampNeg) x29) 168 (((sI (sI σ 162 ((σ.1 161 0).toNatClampNeg) x28) 163 (((sI σ 162 ((σ.1 161 0).toNatClampNeg) x28).1 161 0).toNatClampNeg) x29).1 161 0).toNatClampNeg) (((1 : Int32) <<< (x32 &&& 31)) ||| ((1 : Int32) <<< (x33 &&& 31)))).1 161 0).toNatClampNeg) x30) 170 (((sJ (sI (sI (sI σ 162 ((σ.1 161 0).toNatClampNeg) x28) 163 (((sI σ 162 ((σ.1 161 0).toNatClampNeg) x28).1 161 0).toNatClampNeg) x29) 168 (((sI (sI σ 162 ((σ.1 161 0).toNatClampNeg) x28) 163 (((sI σ 162 ((σ.1 161 0).toNatClampNeg) x28).1 161 0).toNatClampNeg) x29).1 161 0).toNatClampNeg) (((1 : Int32) <<< (x32 &&& 31)) ||| ((1 : Int32) <<< (x33 &&& 31)))) 169 (((sI (sI (sI σ 162 ((σ.1 161 0).toNatClampNeg) x28) 163 (((sI σ 162 ((σ.1 161 0).toNatClampNeg) x28).1 161 0).toNatClampNeg) x29) 168 (((sI (sI σ 162 ((σ.1 161 0).toNatClampNeg) x28) 163 (((sI σ 162 ((σ.1 161 0).toNatClampNeg) x28).1 161 0).toNatClampNeg) x29).1 161 0).toNatClampNeg) (((1 : Int32) <<< (x32 &&& 31)) ||| ((1 : Int32) <<< (x33 &&& 31)))).1 161 0).toNatClampNeg) x30).1 161 0).toNatClampNeg) ((((x35.toInt64) <<< ((4 * x32).toInt64 &&& 63))) ||| (((x36.toInt64) <<< ((4 * x33).toInt64 &&& 63))))).1 161 0).toNatClampNeg)) ((sJ (sJ (sI (sI (sI σ 162 ((σ.1 161 0).toNatClampNeg) x28) 163 (((sI σ 162 ((σ.1 161 0).toNatClampNeg) x28).1 161 0).toNatClampNeg) x29) 168 (((sI (sI σ 162 ((σ.1 161 0).toNatClampNeg) x28) 163 (((sI σ 162 ((σ.1 161 0).toNatClampNeg) x28).1 161 0).toNatClampNeg) x29).1 161 0).toNatClampNeg) (((1 : Int32) <<< (x32 &&& 31)) ||| ((1 : Int32) <<< (x33 &&& 31)))) 169 (((sI (sI (sI σ 162 ((σ.1 161 0).toNatClampNeg) x28) 163 (((sI σ 162 ((σ.1 161 0).toNatClampNeg) x28).1 161 0).toNatClampNeg) x29) 168 (((sI (sI σ 162 ((σ.1 161 0).toNatClampNeg) x28) 163 (((sI σ 162 ((σ.1 161 0).toNatClampNeg) x28).1 161 0).toNatClampNeg) x29).1 161 0).toNatClampNeg) (((1 : Int32) <<< (x32 &&& 31)) ||| ((1 : Int32) <<< (x33 &&& 31)))).1 161 0).toNatClampNeg) x30) 170 (((sJ (sI (sI (sI σ 162 ((σ.1 161 0).toNatClampNeg) x28) 163 (((sI σ 162 ((σ.1 161 0).toNatClampNeg) x28).1 161 0).toNatClampNeg) x29) 168 (((sI (sI σ 162 ((σ.1 161 0).toNatClampNeg) x28) 163 (((sI σ 162 ((σ.1 161 0).toNatClampNeg) x28).1 161 0).toNatClampNeg) x29).1 161 0).toNatClampNeg) (((1 : Int32) <<< (x32 &&& 31)) ||| ((1 : Int32) <<< (x33 &&& 31)))) 169 (((sI (sI (sI σ 162 ((σ.1 161 0).toNatClampNeg) x28) 163 (((sI σ 162 ((σ.1 161 0).toNatClampNeg) x28).1 161 0).toNatClampNeg) x29) 168 (((sI (sI σ 162 ((σ.1 161 0).toNatClampNeg) x28) 163 (((sI σ 162 ((σ.1 161 0).toNatClampNeg) x28).1 161 0).toNatClampNeg) x29).1 161 0).toNatClampNeg) (((1 : Int32) <<< (x32 &&& 31)) ||| ((1 : Int32) <<< (x33 &&& 31)))).1 161 0).toNatClampNeg) x30).1 161 0).toNatClampNeg) ((((x35.toInt64) <<< ((4 * x32).toInt64 &&& 63))) ||| (((x36.toInt64) <<< ((4 * x33).toInt64 &&& 63))))).1 161 0))))))))
set_option maxRecDepth 100000 in
set_option maxHeartbeats 1000000 in
theorem wL_law_580 {rec221 : (gS × Int32 × Int32) → Option Int32} {σ : gS} {x21 : Int32} {x24 : Int32} {x28 : Int32} {x29 : Int32} {x30 : Int64} {x32 : Int32} {x33 : Int32} {x35 : Int32} {x36 : Int32} {xs0 : Int32} {ad : Nat → Nat} {kc ns : Nat} (hx : p.tables.exec = Jvm.exec) (hb : c.code = cL_law) (hr : meth.sig.returnType = (some .boolean)) (hml : c.maxLocals = 37) (hown : s.vm.findClass RL = some m.cls) (hg : ∀ w ∈ wsL_law, w.before args s = true) (hlocks : meth.locks = false) (hK : gK D y aS s) (hA : ∀ q, s.heap.size ≤ q → A q) (hL : ∀ k, k < 179 → k ∈ L) (hfl : l.stackTraces = false) (hZ : gZ A s s.heap) (hX : va_X b Lx xs s s.heap) (hbl : b < s.heap.size) (hA2 : ∀ q, A q → s.heap.size ≤ q) (hres : res = 1) (hL2 : ∀ k ∈ L, k < 179) (hrec221 : ∀ {ad : Nat → Nat} {kc ns : Nat} {σ9 : gS} {x20n9 : Int32} {x21n9 : Int32} (hkc : kc ≤ 183 + 643 * x21n9.toInt.toNat + 0) (hns : ns ≤ 3391 + 81814 * x21n9.toInt.toNat + 0) (hi0 : 0 ≤ x21n9.toInt) (hi8 : x21n9.toInt ≤ 80) (H : Heap) (locs : List Loc) (ls : Array Slot), gY D y A s L ad σ9 H locs → lv_has ls 37 [(0, .ref b), (1, .ref (ad 0)), (2, .ref (ad 161)), (3, .ref (ad 162)), (4, .ref (ad 163)), (5, .ref (ad 164)), (6, .ref (ad 165)), (7, .ref (ad 166)), (8, .ref (ad 167)), (9, .ref (ad 168)), (10, .ref (ad 169)), (11, .ref (ad 170)), (12, .ref (ad 171)), (13, .ref (ad 172)), (14, .ref (ad 173)), (15, .ref (ad 174)), (16, .ref (ad 175)), (17, .ref (ad 176)), (18, .ref (ad 177)), (19, .ref (ad 178)), (20, .int x20n9), (21, .int x21n9)] → rec221 (σ9, x20n9, x21n9) = some res → W p l e room_1 s m args below meth c H locs kc ns (lw_Z below args s) (F0 m 221 ls [])) (hkc : kc ≤ 183 + 643 * x21.toInt.toNat + 4) (hns : ns ≤ 3391 + 81814 * x21.toInt.toNat + 24) (hi0 : 0 ≤ x21.toInt) (hi8 : x21.toInt < 80) {H : Heap} {locs : List Loc} {ls : Array Slot} (hY : gY D y A s L ad σ H locs) (hl : lv_has ls 37 [(0, .ref b), (1, .ref (ad 0)), (2, .ref (ad 161)), (3, .ref (ad 162)), (4, .ref (ad 163)), (5, .ref (ad 164)), (6, .ref (ad 165)), (7, .ref (ad 166)), (8, .ref (ad 167)), (9, .ref (ad 168)), (10, .ref (ad 169)), (11, .ref (ad 170)), (12, .ref (ad 171)), (13, .ref (ad 172)), (14, .ref (ad 173)), (15, .ref (ad 174)), (16, .ref (ad 175)), (17, .ref (ad 176)), (18, .ref (ad 177)), (19, .ref (ad 178)), (21, .int x21), (24, .int x24), (28, .int x28), (29, .int x29), (30, .long x30), (32, .int x32), (33, .int x33), (35, .int x35), (36, .int x36)]) (h : fL_law_580 N xs Lx rec221 σ x21 x24 x28 x29 x30 x32 x33 x35 x36 xs0 = some res) : W p l e room_1 s m args below meth c H locs kc ns (lw_Z below args s) (F0 m 580 ls [.int xs0]) := by
  unfold fL_law_580 at h
  refine lv_istore (lv' := [(20, .int xs0), (0, .ref b), (1, .ref (ad 0)), (2, .ref (ad 161)), (3, .ref (ad 162)), (4, .ref (ad 163)), (5, .ref (ad 164)), (6, .ref (ad 165)), (7, .ref (ad 166)), (8, .ref (ad 167)), (9, .ref (ad 168)), (10, .ref (ad 169)), (11, .ref (ad 170)), (12, .ref (ad 171)), (13, .ref (ad 172)), (14, .ref (ad 173)), (15, .ref (ad 174)), (16, .ref (ad 175)), (17, .ref (ad 176)), (18, .ref (ad 177)), (19, .ref (ad 178)), (21, .int x21), (24, .int x24), (28, .int x28), (29, .int x29), (30, .long x30), (32, .int x32), (33, .int x33), (35, .int x35), (36, .int x36)]) hx hb dL_law_580 hl (by decide) rfl ?_
  clear hl
  intro ls hl
  refine lv_aload_n hx hb dL_law_582 rfl (lv_at hl 4 rfl) ?_
  refine lv_aload_n hx hb dL_law_583 rfl (lv_at hl 3 rfl) ?_
  refine lv_iconst (v := 0) hx hb dL_law_584 (by decide) ?_
  refine G_iald (j := 0) hx hb hK hY (hL 161 (by decide)) gk_161 (by rw [gl_161]; decide +kernel) (by decide +kernel) dL_law_585 ?_
  refine lv_iload hx hb dL_law_586 (lv_at hl 23 rfl) ?_
  obtain ⟨z_1, h⟩ := g_guard h
  refine G_iast (j := (σ.1 161 0).toNatClampNeg) hx hb hK hY (hL 162 (by decide)) gk_162 (by rw [gl_162]; exact z_1) rfl dL_law_588 ?_
  clear hY
  intro H locs hY
  refine lv_aload hx hb dL_law_589 (lv_at hl 5 rfl) ?_
  refine lv_aload_n hx hb dL_law_591 rfl (lv_at hl 3 rfl) ?_
  refine lv_iconst (v := 0) hx hb dL_law_592 (by decide) ?_
  refine G_iald (j := 0) hx hb hK hY (hL 161 (by decide)) gk_161 (by rw [gl_161]; decide +kernel) (by decide +kernel) dL_law_593 ?_
  refine lv_iload hx hb dL_law_594 (lv_at hl 24 rfl) ?_
  obtain ⟨z_2, h⟩ := g_guard h
  refine G_iast (j := ((sI σ 162 ((σ.1 161 0).toNatClampNeg) x28).1 161 0).toNatClampNeg) hx hb hK hY (hL 163 (by decide)) gk_163 (by rw [gl_163]; exact z_2) rfl dL_law_596 ?_
  clear hY
  intro H locs hY
  refine lv_aload hx hb dL_law_597 (lv_at hl 10 rfl) ?_
  refine lv_aload_n hx hb dL_law_599 rfl (lv_at hl 3 rfl) ?_
  refine lv_iconst (v := 0) hx hb dL_law_600 (by decide) ?_
  refine G_iald (j := 0) hx hb hK hY (hL 161 (by decide)) gk_161 (by rw [gl_161]; decide +kernel) (by decide +kernel) dL_law_601 ?_
  refine lv_iconst (v := 1) hx hb dL_law_602 (by decide) ?_
  refine lv_iload hx hb dL_law_603 (lv_at hl 26 rfl) ?_
  refine lv_ishl hx hb dL_law_605 ?_
  refine lv_iconst (v := 1) hx hb dL_law_606 (by decide) ?_
  refine lv_iload hx hb dL_law_607 (lv_at hl 27 rfl) ?_
  refine lv_ishl hx hb dL_law_609 ?_
  refine lv_ior hx hb dL_law_610 ?_
  obtain ⟨z_3, h⟩ := g_guard h
  refine G_iast (j := ((sI (sI σ 162 ((σ.1 161 0).toNatClampNeg) x28) 163 (((sI σ 162 ((σ.1 161 0).toNatClampNeg) x28).1 161 0).toNatClampNeg) x29).1 161 0).toNatClampNeg) hx hb hK hY (hL 168 (by decide)) gk_168 (by rw [gl_168]; exact z_3) rfl dL_law_611 ?_
  clear hY
  intro H locs hY
  refine lv_aload hx hb dL_law_612 (lv_at hl 11 rfl) ?_
  refine lv_aload_n hx hb dL_law_614 rfl (lv_at hl 3 rfl) ?_
  refine lv_iconst (v := 0) hx hb dL_law_615 (by decide) ?_
  refine G_iald (j := 0) hx hb hK hY (hL 161 (by decide)) gk_161 (by rw [gl_161]; decide +kernel) (by decide +kernel) dL_law_616 ?_
  refine lv_lload hx hb dL_law_617 (lv_at hl 25 rfl) ?_
  obtain ⟨z_4, h⟩ := g_guard h
  refine G_last (j := ((sI (sI (sI σ 162 ((σ.1 161 0).toNatClampNeg) x28) 163 (((sI σ 162 ((σ.1 161 0).toNatClampNeg) x28).1 161 0).toNatClampNeg) x29) 168 (((sI (sI σ 162 ((σ.1 161 0).toNatClampNeg) x28) 163 (((sI σ 162 ((σ.1 161 0).toNatClampNeg) x28).1 161 0).toNatClampNeg) x29).1 161 0).toNatClampNeg) (((1 : Int32) <<< (x32 &&& 31)) ||| ((1 : Int32) <<< (x33 &&& 31)))).1 161 0).toNatClampNeg) hx hb hK hY (hL 169 (by decide)) gk_169 (by rw [gl_169]; exact z_4) rfl dL_law_619 ?_
  clear hY
  intro H locs hY
  refine lv_aload hx hb dL_law_620 (lv_at hl 12 rfl) ?_
  refine lv_aload_n hx hb dL_law_622 rfl (lv_at hl 3 rfl) ?_
  refine lv_iconst (v := 0) hx hb dL_law_623 (by decide) ?_
  refine G_iald (j := 0) hx hb hK hY (hL 161 (by decide)) gk_161 (by rw [gl_161]; decide +kernel) (by decide +kernel) dL_law_624 ?_
  refine lv_iload hx hb dL_law_625 (lv_at hl 28 rfl) ?_
  refine lv_i2l (v := (x35.toInt64)) hx hb dL_law_627 rfl ?_
  refine lv_iconst (v := 4) hx hb dL_law_628 (by decide) ?_
  refine lv_iload hx hb dL_law_629 (lv_at hl 26 rfl) ?_
  refine lv_imul hx hb dL_law_631 ?_
  refine lv_lshl (v := (((x35.toInt64) <<< ((4 * x32).toInt64 &&& 63)))) hx hb dL_law_632 rfl ?_
  refine lv_iload hx hb dL_law_633 (lv_at hl 29 rfl) ?_
  refine lv_i2l (v := (x36.toInt64)) hx hb dL_law_635 rfl ?_
  refine lv_iconst (v := 4) hx hb dL_law_636 (by decide) ?_
  refine lv_iload hx hb dL_law_637 (lv_at hl 27 rfl) ?_
  refine lv_imul hx hb dL_law_639 ?_
  refine lv_lshl (v := (((x36.toInt64) <<< ((4 * x33).toInt64 &&& 63)))) hx hb dL_law_640 rfl ?_
  refine lv_lor hx hb dL_law_641 ?_
  obtain ⟨z_5, h⟩ := g_guard h
  refine G_last (j := ((sJ (sI (sI (sI σ 162 ((σ.1 161 0).toNatClampNeg) x28) 163 (((sI σ 162 ((σ.1 161 0).toNatClampNeg) x28).1 161 0).toNatClampNeg) x29) 168 (((sI (sI σ 162 ((σ.1 161 0).toNatClampNeg) x28) 163 (((sI σ 162 ((σ.1 161 0).toNatClampNeg) x28).1 161 0).toNatClampNeg) x29).1 161 0).toNatClampNeg) (((1 : Int32) <<< (x32 &&& 31)) ||| ((1 : Int32) <<< (x33 &&& 31)))) 169 (((sI (sI (sI σ 162 ((σ.1 161 0).toNatClampNeg) x28) 163 (((sI σ 162 ((σ.1 161 0).toNatClampNeg) x28).1 161 0).toNatClampNeg) x29) 168 (((sI (sI σ 162 ((σ.1 161 0).toNatClampNeg) x28) 163 (((sI σ 162 ((σ.1 161 0).toNatClampNeg) x28).1 161 0).toNatClampNeg) x29).1 161 0).toNatClampNeg) (((1 : Int32) <<< (x32 &&& 31)) ||| ((1 : Int32) <<< (x33 &&& 31)))).1 161 0).toNatClampNeg) x30).1 161 0).toNatClampNeg) hx hb hK hY (hL 170 (by decide)) gk_170 (by rw [gl_170]; exact z_5) rfl dL_law_642 ?_
  clear hY
  intro H locs hY
  refine lv_aload hx hb dL_law_643 (lv_at hl 12 rfl) ?_
  refine lv_aload_n hx hb dL_law_645 rfl (lv_at hl 3 rfl) ?_
  refine lv_iconst (v := 0) hx hb dL_law_646 (by decide) ?_
  refine G_iald (j := 0) hx hb hK hY (hL 161 (by decide)) gk_161 (by rw [gl_161]; decide +kernel) (by decide +kernel) dL_law_647 ?_
  refine lv_iload hx hb dL_law_648 (lv_at hl 26 rfl) ?_
  refine lv_iload hx hb dL_law_650 (lv_at hl 27 rfl) ?_
  refine lv_icmp_ne (tgt := 666) hx hb dL_law_652 (by decide) (fun z_6 => ?_) (fun z_6 => ?_)
  ·
    rw [if_neg z_6] at h
    refine lv_aload hx hb dL_law_666 (lv_at hl 12 rfl) ?_
    refine lv_aload_n hx hb dL_law_668 rfl (lv_at hl 3 rfl) ?_
    refine lv_iconst (v := 0) hx hb dL_law_669 (by decide) ?_
    refine G_iald (j := 0) hx hb hK hY (hL 161 (by decide)) gk_161 (by rw [gl_161]; decide +kernel) (by decide +kernel) dL_law_670 ?_
    obtain ⟨z_7, h⟩ := g_guard h
    refine G_lald (j := ((sJ (sJ (sI (sI (sI σ 162 ((σ.1 161 0).toNatClampNeg) x28) 163 (((sI σ 162 ((σ.1 161 0).toNatClampNeg) x28).1 161 0).toNatClampNeg) x29) 168 (((sI (sI σ 162 ((σ.1 161 0).toNatClampNeg) x28) 163 (((sI σ 162 ((σ.1 161 0).toNatClampNeg) x28).1 161 0).toNatClampNeg) x29).1 161 0).toNatClampNeg) (((1 : Int32) <<< (x32 &&& 31)) ||| ((1 : Int32) <<< (x33 &&& 31)))) 169 (((sI (sI (sI σ 162 ((σ.1 161 0).toNatClampNeg) x28) 163 (((sI σ 162 ((σ.1 161 0).toNatClampNeg) x28).1 161 0).toNatClampNeg) x29) 168 (((sI (sI σ 162 ((σ.1 161 0).toNatClampNeg) x28) 163 (((sI σ 162 ((σ.1 161 0).toNatClampNeg) x28).1 161 0).toNatClampNeg) x29).1 161 0).toNatClampNeg) (((1 : Int32) <<< (x32 &&& 31)) ||| ((1 : Int32) <<< (x33 &&& 31)))).1 161 0).toNatClampNeg) x30) 170 (((sJ (sI (sI (sI σ 162 ((σ.1 161 0).toNatClampNeg) x28) 163 (((sI σ 162 ((σ.1 161 0).toNatClampNeg) x28).1 161 0).toNatClampNeg) x29) 168 (((sI (sI σ 162 ((σ.1 161 0).toNatClampNeg) x28) 163 (((sI σ 162 ((σ.1 161 0).toNatClampNeg) x28).1 161 0).toNatClampNeg) x29).1 161 0).toNatClampNeg) (((1 : Int32) <<< (x32 &&& 31)) ||| ((1 : Int32) <<< (x33 &&& 31)))) 169 (((sI (sI (sI σ 162 ((σ.1 161 0).toNatClampNeg) x28) 163 (((sI σ 162 ((σ.1 161 0).toNatClampNeg) x28).1 161 0).toNatClampNeg) x29) 168 (((sI (sI σ 162 ((σ.1 161 0).toNatClampNeg) x28) 163 (((sI σ 162 ((σ.1 161 0).toNatClampNeg) x28).1 161 0).toNatClampNeg) x29).1 161 0).toNatClampNeg) (((1 : Int32) <<< (x32 &&& 31)) ||| ((1 : Int32) <<< (x33 &&& 31)))).1 161 0).toNatClampNeg) x30).1 161 0).toNatClampNeg) ((((x35.toInt64) <<< ((4 * x32).toInt64 &&& 63))) ||| (((x36.toInt64) <<< ((4 * x33).toInt64 &&& 63))))).1 161 0).toNatClampNeg) hx hb hK hY (hL 170 (by decide)) gk_170 (by rw [gl_170]; exact z_7) rfl dL_law_671 ?_
    exact wL_law_672 hx hb hr hml hown hg hlocks hK hA hL hfl hZ hX hbl hA2 hres hL2 hrec221 (by first | omega | (simp only [g_l0]; omega)) (by first | omega | (simp only [g_l0]; omega)) (by first | omega | (simp only [g_l0]; omega)) (by first | omega | (simp only [g_l0]; omega)) hY (lv_sub hl [1, 2, 3, 4, 5, 6, 7, 8, 9, 10, 11, 12, 13, 14, 15, 16, 17, 18, 19, 20, 0, 21, 22, 24] rfl) h
  ·
    rw [if_pos z_6] at h
    refine lv_iload hx hb dL_law_655 (lv_at hl 28 rfl) ?_
    refine lv_i2l (v := (x35.toInt64)) hx hb dL_law_657 rfl ?_
    refine lv_iconst (v := 4) hx hb dL_law_658 (by decide) ?_
    refine lv_iload hx hb dL_law_659 (lv_at hl 26 rfl) ?_
    refine lv_imul hx hb dL_law_661 ?_
    refine lv_lshl (v := (((x35.toInt64) <<< ((4 * x32).toInt64 &&& 63)))) hx hb dL_law_662 rfl ?_
    refine lv_goto (tgt := 672) hx hb dL_law_663 (by decide) ?_
    exact wL_law_672 hx hb hr hml hown hg hlocks hK hA hL hfl hZ hX hbl hA2 hres hL2 hrec221 (by first | omega | (simp only [g_l0]; omega)) (by first | omega | (simp only [g_l0]; omega)) (by first | omega | (simp only [g_l0]; omega)) (by first | omega | (simp only [g_l0]; omega)) hY (lv_sub hl [1, 2, 3, 4, 5, 6, 7, 8, 9, 10, 11, 12, 13, 14, 15, 16, 17, 18, 19, 20, 0, 21, 22, 24] rfl) h
def fL_law_579 (N : Nat) (xs : Nat → Int32) (Lx : Nat) (rec221 : (gS × Int32 × Int32) → Option Int32) (σ : gS) (x21 : Int32) (x24 : Int32) (x28 : Int32) (x29 : Int32) (x30 : Int64) (x32 : Int32) (x33 : Int32) (x35 : Int32) (x36 : Int32) : Option Int32 := fL_law_580 N xs Lx rec221 σ x21 x24 x28 x29 x30 x32 x33 x35 x36 0
set_option maxRecDepth 100000 in
set_option maxHeartbeats 1000000 in
theorem wL_law_579 {rec221 : (gS × Int32 × Int32) → Option Int32} {σ : gS} {x21 : Int32} {x24 : Int32} {x28 : Int32} {x29 : Int32} {x30 : Int64} {x32 : Int32} {x33 : Int32} {x35 : Int32} {x36 : Int32} {ad : Nat → Nat} {kc ns : Nat} (hx : p.tables.exec = Jvm.exec) (hb : c.code = cL_law) (hr : meth.sig.returnType = (some .boolean)) (hml : c.maxLocals = 37) (hown : s.vm.findClass RL = some m.cls) (hg : ∀ w ∈ wsL_law, w.before args s = true) (hlocks : meth.locks = false) (hK : gK D y aS s) (hA : ∀ q, s.heap.size ≤ q → A q) (hL : ∀ k, k < 179 → k ∈ L) (hfl : l.stackTraces = false) (hZ : gZ A s s.heap) (hX : va_X b Lx xs s s.heap) (hbl : b < s.heap.size) (hA2 : ∀ q, A q → s.heap.size ≤ q) (hres : res = 1) (hL2 : ∀ k ∈ L, k < 179) (hrec221 : ∀ {ad : Nat → Nat} {kc ns : Nat} {σ9 : gS} {x20n9 : Int32} {x21n9 : Int32} (hkc : kc ≤ 183 + 643 * x21n9.toInt.toNat + 0) (hns : ns ≤ 3391 + 81814 * x21n9.toInt.toNat + 0) (hi0 : 0 ≤ x21n9.toInt) (hi8 : x21n9.toInt ≤ 80) (H : Heap) (locs : List Loc) (ls : Array Slot), gY D y A s L ad σ9 H locs → lv_has ls 37 [(0, .ref b), (1, .ref (ad 0)), (2, .ref (ad 161)), (3, .ref (ad 162)), (4, .ref (ad 163)), (5, .ref (ad 164)), (6, .ref (ad 165)), (7, .ref (ad 166)), (8, .ref (ad 167)), (9, .ref (ad 168)), (10, .ref (ad 169)), (11, .ref (ad 170)), (12, .ref (ad 171)), (13, .ref (ad 172)), (14, .ref (ad 173)), (15, .ref (ad 174)), (16, .ref (ad 175)), (17, .ref (ad 176)), (18, .ref (ad 177)), (19, .ref (ad 178)), (20, .int x20n9), (21, .int x21n9)] → rec221 (σ9, x20n9, x21n9) = some res → W p l e room_1 s m args below meth c H locs kc ns (lw_Z below args s) (F0 m 221 ls [])) (hkc : kc ≤ 183 + 643 * x21.toInt.toNat + 4) (hns : ns ≤ 3391 + 81814 * x21.toInt.toNat + 24) (hi0 : 0 ≤ x21.toInt) (hi8 : x21.toInt < 80) {H : Heap} {locs : List Loc} {ls : Array Slot} (hY : gY D y A s L ad σ H locs) (hl : lv_has ls 37 [(0, .ref b), (1, .ref (ad 0)), (2, .ref (ad 161)), (3, .ref (ad 162)), (4, .ref (ad 163)), (5, .ref (ad 164)), (6, .ref (ad 165)), (7, .ref (ad 166)), (8, .ref (ad 167)), (9, .ref (ad 168)), (10, .ref (ad 169)), (11, .ref (ad 170)), (12, .ref (ad 171)), (13, .ref (ad 172)), (14, .ref (ad 173)), (15, .ref (ad 174)), (16, .ref (ad 175)), (17, .ref (ad 176)), (18, .ref (ad 177)), (19, .ref (ad 178)), (21, .int x21), (24, .int x24), (28, .int x28), (29, .int x29), (30, .long x30), (32, .int x32), (33, .int x33), (35, .int x35), (36, .int x36)]) (h : fL_law_579 N xs Lx rec221 σ x21 x24 x28 x29 x30 x32 x33 x35 x36 = some res) : W p l e room_1 s m args below meth c H locs kc ns (lw_Z below args s) (F0 m 579 ls []) := by
  unfold fL_law_579 at h
  refine lv_iconst (v := 0) hx hb dL_law_579 (by decide) ?_
  exact wL_law_580 hx hb hr hml hown hg hlocks hK hA hL hfl hZ hX hbl hA2 hres hL2 hrec221 (by first | omega | (simp only [g_l0]; omega)) (by first | omega | (simp only [g_l0]; omega)) (by first | omega | (simp only [g_l0]; omega)) (by first | omega | (simp only [g_l0]; omega)) hY (lv_sub hl [0, 1, 2, 3, 4, 5, 6, 7, 8, 9, 10, 11, 12, 13, 14, 15, 16, 17, 18, 19, 20, 21, 22, 23, 24, 25, 26, 27, 28] rfl) h
end
