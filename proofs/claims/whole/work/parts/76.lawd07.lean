/-! the law, decoded -/
theorem dL_1278 : decode code 1278 = .ok (.invokevirtual 161, 3) := by decide +kernel
theorem dL_1281 : decode code 1281 = .ok (.if_icmp .eq 407, 3) := by decide +kernel
theorem dL_1284 : decode code 1284 = .ok (.iconst 0, 1) := by decide +kernel
theorem dL_1285 : decode code 1285 = .ok (.ireturn, 1) := by decide +kernel
theorem dL_1286 : decode code 1286 = .ok (.aload_n 1, 1) := by decide +kernel
theorem dL_1287 : decode code 1287 = .ok (.invokevirtual 162, 3) := by decide +kernel
theorem dL_1290 : decode code 1290 = .ok (.aload_n 2, 1) := by decide +kernel
theorem dL_1291 : decode code 1291 = .ok (.invokevirtual 165, 3) := by decide +kernel
theorem dL_1294 : decode code 1294 = .ok (.if_icmp .eq 394, 3) := by decide +kernel
theorem dL_1297 : decode code 1297 = .ok (.iconst 0, 1) := by decide +kernel
theorem dL_1298 : decode code 1298 = .ok (.ireturn, 1) := by decide +kernel
theorem dL_1299 : decode code 1299 = .ok (.aload_n 1, 1) := by decide +kernel
theorem dL_1300 : decode code 1300 = .ok (.invokevirtual 166, 3) := by decide +kernel
theorem dL_1303 : decode code 1303 = .ok (.aload_n 2, 1) := by decide +kernel
theorem dL_1304 : decode code 1304 = .ok (.invokevirtual 169, 3) := by decide +kernel
theorem dL_1307 : decode code 1307 = .ok (.if_icmp .eq 381, 3) := by decide +kernel
theorem dL_1310 : decode code 1310 = .ok (.iconst 0, 1) := by decide +kernel
theorem dL_1311 : decode code 1311 = .ok (.ireturn, 1) := by decide +kernel
theorem dL_1312 : decode code 1312 = .ok (.aload_n 1, 1) := by decide +kernel
theorem dL_1313 : decode code 1313 = .ok (.aload_n 0, 1) := by decide +kernel
theorem dL_1314 : decode code 1314 = .ok (.iload_n 3, 1) := by decide +kernel
theorem dL_1315 : decode code 1315 = .ok (.iconst 1, 1) := by decide +kernel
theorem dL_1316 : decode code 1316 = .ok (.iadd, 1) := by decide +kernel
theorem dL_1317 : decode code 1317 = .ok (.iaload, 1) := by decide +kernel
theorem dL_1318 : decode code 1318 = .ok (.aload_n 0, 1) := by decide +kernel
theorem dL_1319 : decode code 1319 = .ok (.iload_n 3, 1) := by decide +kernel
theorem dL_1320 : decode code 1320 = .ok (.iconst 2, 1) := by decide +kernel
theorem dL_1321 : decode code 1321 = .ok (.iadd, 1) := by decide +kernel
theorem dL_1322 : decode code 1322 = .ok (.iaload, 1) := by decide +kernel
theorem dL_1323 : decode code 1323 = .ok (.invokevirtual 170, 3) := by decide +kernel
theorem dL_1326 : decode code 1326 = .ok (.aload_n 2, 1) := by decide +kernel
theorem dL_1327 : decode code 1327 = .ok (.aload_n 0, 1) := by decide +kernel
theorem dL_1328 : decode code 1328 = .ok (.iload_n 3, 1) := by decide +kernel
theorem dL_1329 : decode code 1329 = .ok (.iconst 1, 1) := by decide +kernel
theorem dL_1330 : decode code 1330 = .ok (.iadd, 1) := by decide +kernel
theorem dL_1331 : decode code 1331 = .ok (.iaload, 1) := by decide +kernel
theorem dL_1332 : decode code 1332 = .ok (.aload_n 0, 1) := by decide +kernel
theorem dL_1333 : decode code 1333 = .ok (.iload_n 3, 1) := by decide +kernel
theorem dL_1334 : decode code 1334 = .ok (.iconst 2, 1) := by decide +kernel
theorem dL_1335 : decode code 1335 = .ok (.iadd, 1) := by decide +kernel
theorem dL_1336 : decode code 1336 = .ok (.iaload, 1) := by decide +kernel
theorem dL_1337 : decode code 1337 = .ok (.invokevirtual 173, 3) := by decide +kernel
theorem dL_1340 : decode code 1340 = .ok (.if_icmp .eq 348, 3) := by decide +kernel
theorem dL_1343 : decode code 1343 = .ok (.iconst 0, 1) := by decide +kernel
theorem dL_1344 : decode code 1344 = .ok (.ireturn, 1) := by decide +kernel
theorem dL_1345 : decode code 1345 = .ok (.aload_n 1, 1) := by decide +kernel
theorem dL_1346 : decode code 1346 = .ok (.aload_n 0, 1) := by decide +kernel
theorem dL_1347 : decode code 1347 = .ok (.iload_n 3, 1) := by decide +kernel
theorem dL_1348 : decode code 1348 = .ok (.iconst 1, 1) := by decide +kernel
theorem dL_1349 : decode code 1349 = .ok (.iadd, 1) := by decide +kernel
theorem dL_1350 : decode code 1350 = .ok (.iaload, 1) := by decide +kernel
theorem dL_1351 : decode code 1351 = .ok (.aload_n 0, 1) := by decide +kernel
theorem dL_1352 : decode code 1352 = .ok (.iload_n 3, 1) := by decide +kernel
theorem dL_1353 : decode code 1353 = .ok (.iconst 2, 1) := by decide +kernel
theorem dL_1354 : decode code 1354 = .ok (.iadd, 1) := by decide +kernel
theorem dL_1355 : decode code 1355 = .ok (.iaload, 1) := by decide +kernel
theorem dL_1356 : decode code 1356 = .ok (.invokevirtual 174, 3) := by decide +kernel
theorem dL_1359 : decode code 1359 = .ok (.aload_n 2, 1) := by decide +kernel
theorem dL_1360 : decode code 1360 = .ok (.aload_n 0, 1) := by decide +kernel
theorem dL_1361 : decode code 1361 = .ok (.iload_n 3, 1) := by decide +kernel
theorem dL_1362 : decode code 1362 = .ok (.iconst 1, 1) := by decide +kernel
theorem dL_1363 : decode code 1363 = .ok (.iadd, 1) := by decide +kernel
theorem dL_1364 : decode code 1364 = .ok (.iaload, 1) := by decide +kernel
theorem dL_1365 : decode code 1365 = .ok (.aload_n 0, 1) := by decide +kernel
theorem dL_1366 : decode code 1366 = .ok (.iload_n 3, 1) := by decide +kernel
theorem dL_1367 : decode code 1367 = .ok (.iconst 2, 1) := by decide +kernel
theorem dL_1368 : decode code 1368 = .ok (.iadd, 1) := by decide +kernel
theorem dL_1369 : decode code 1369 = .ok (.iaload, 1) := by decide +kernel
theorem dL_1370 : decode code 1370 = .ok (.invokevirtual 177, 3) := by decide +kernel
theorem dL_1373 : decode code 1373 = .ok (.if_icmp .eq 315, 3) := by decide +kernel
theorem dL_1376 : decode code 1376 = .ok (.iconst 0, 1) := by decide +kernel
theorem dL_1377 : decode code 1377 = .ok (.ireturn, 1) := by decide +kernel
theorem dL_1378 : decode code 1378 = .ok (.aload_n 1, 1) := by decide +kernel
theorem dL_1379 : decode code 1379 = .ok (.aload_n 0, 1) := by decide +kernel
theorem dL_1380 : decode code 1380 = .ok (.iload_n 3, 1) := by decide +kernel
theorem dL_1381 : decode code 1381 = .ok (.iconst 1, 1) := by decide +kernel
theorem dL_1382 : decode code 1382 = .ok (.iadd, 1) := by decide +kernel
theorem dL_1383 : decode code 1383 = .ok (.iaload, 1) := by decide +kernel
theorem dL_1384 : decode code 1384 = .ok (.aload_n 0, 1) := by decide +kernel
theorem dL_1385 : decode code 1385 = .ok (.iload_n 3, 1) := by decide +kernel
theorem dL_1386 : decode code 1386 = .ok (.iconst 2, 1) := by decide +kernel
theorem dL_1387 : decode code 1387 = .ok (.iadd, 1) := by decide +kernel
theorem dL_1388 : decode code 1388 = .ok (.iaload, 1) := by decide +kernel
theorem dL_1389 : decode code 1389 = .ok (.aload_n 0, 1) := by decide +kernel
theorem dL_1390 : decode code 1390 = .ok (.iload_n 3, 1) := by decide +kernel
theorem dL_1391 : decode code 1391 = .ok (.iconst 3, 1) := by decide +kernel
theorem dL_1392 : decode code 1392 = .ok (.iadd, 1) := by decide +kernel
theorem dL_1393 : decode code 1393 = .ok (.iaload, 1) := by decide +kernel
theorem dL_1394 : decode code 1394 = .ok (.invokevirtual 178, 3) := by decide +kernel
theorem dL_1397 : decode code 1397 = .ok (.aload_n 2, 1) := by decide +kernel
theorem dL_1398 : decode code 1398 = .ok (.aload_n 0, 1) := by decide +kernel
theorem dL_1399 : decode code 1399 = .ok (.iload_n 3, 1) := by decide +kernel
theorem dL_1400 : decode code 1400 = .ok (.iconst 1, 1) := by decide +kernel
theorem dL_1401 : decode code 1401 = .ok (.iadd, 1) := by decide +kernel
theorem dL_1402 : decode code 1402 = .ok (.iaload, 1) := by decide +kernel
theorem dL_1403 : decode code 1403 = .ok (.aload_n 0, 1) := by decide +kernel
theorem dL_1404 : decode code 1404 = .ok (.iload_n 3, 1) := by decide +kernel
theorem dL_1405 : decode code 1405 = .ok (.iconst 2, 1) := by decide +kernel
theorem dL_1406 : decode code 1406 = .ok (.iadd, 1) := by decide +kernel
theorem dL_1407 : decode code 1407 = .ok (.iaload, 1) := by decide +kernel
theorem dL_1408 : decode code 1408 = .ok (.aload_n 0, 1) := by decide +kernel
theorem dL_1409 : decode code 1409 = .ok (.iload_n 3, 1) := by decide +kernel
theorem dL_1410 : decode code 1410 = .ok (.iconst 3, 1) := by decide +kernel
theorem dL_1411 : decode code 1411 = .ok (.iadd, 1) := by decide +kernel
theorem dL_1412 : decode code 1412 = .ok (.iaload, 1) := by decide +kernel
theorem dL_1413 : decode code 1413 = .ok (.invokevirtual 181, 3) := by decide +kernel
theorem dL_1416 : decode code 1416 = .ok (.if_icmp .eq 272, 3) := by decide +kernel
theorem dL_1419 : decode code 1419 = .ok (.iconst 0, 1) := by decide +kernel
theorem dL_1420 : decode code 1420 = .ok (.ireturn, 1) := by decide +kernel
theorem dL_1421 : decode code 1421 = .ok (.aload_n 1, 1) := by decide +kernel
theorem dL_1422 : decode code 1422 = .ok (.aload_n 0, 1) := by decide +kernel
theorem dL_1423 : decode code 1423 = .ok (.iload_n 3, 1) := by decide +kernel
theorem dL_1424 : decode code 1424 = .ok (.iconst 1, 1) := by decide +kernel
theorem dL_1425 : decode code 1425 = .ok (.iadd, 1) := by decide +kernel
theorem dL_1426 : decode code 1426 = .ok (.iaload, 1) := by decide +kernel
theorem dL_1427 : decode code 1427 = .ok (.aload_n 0, 1) := by decide +kernel
theorem dL_1428 : decode code 1428 = .ok (.iload_n 3, 1) := by decide +kernel
theorem dL_1429 : decode code 1429 = .ok (.iconst 2, 1) := by decide +kernel
theorem dL_1430 : decode code 1430 = .ok (.iadd, 1) := by decide +kernel
theorem dL_1431 : decode code 1431 = .ok (.iaload, 1) := by decide +kernel
