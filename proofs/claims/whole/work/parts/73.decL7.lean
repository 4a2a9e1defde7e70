theorem dL_law_1364 : decode cL_law 1364 = .ok (.iadd, 1) := by decide +kernel
theorem dL_law_1365 : decode cL_law 1365 = .ok (.iaload, 1) := by decide +kernel
theorem dL_law_1366 : decode cL_law 1366 = .ok (.invokevirtual 214, 3) := by decide +kernel
theorem dL_law_1369 : decode cL_law 1369 = .ok (.if_icmp .eq 104, 3) := by decide +kernel
theorem dL_law_1372 : decode cL_law 1372 = .ok (.iconst 0, 1) := by decide +kernel
theorem dL_law_1373 : decode cL_law 1373 = .ok (.ireturn, 1) := by decide +kernel
theorem dL_law_1374 : decode cL_law 1374 = .ok (.aload_n 1, 1) := by decide +kernel
theorem dL_law_1375 : decode cL_law 1375 = .ok (.aload_n 0, 1) := by decide +kernel
theorem dL_law_1376 : decode cL_law 1376 = .ok (.iload_n 3, 1) := by decide +kernel
theorem dL_law_1377 : decode cL_law 1377 = .ok (.iconst 1, 1) := by decide +kernel
theorem dL_law_1378 : decode cL_law 1378 = .ok (.iadd, 1) := by decide +kernel
theorem dL_law_1379 : decode cL_law 1379 = .ok (.iaload, 1) := by decide +kernel
theorem dL_law_1380 : decode cL_law 1380 = .ok (.aload_n 0, 1) := by decide +kernel
theorem dL_law_1381 : decode cL_law 1381 = .ok (.iload_n 3, 1) := by decide +kernel
theorem dL_law_1382 : decode cL_law 1382 = .ok (.iconst 2, 1) := by decide +kernel
theorem dL_law_1383 : decode cL_law 1383 = .ok (.iadd, 1) := by decide +kernel
theorem dL_law_1384 : decode cL_law 1384 = .ok (.iaload, 1) := by decide +kernel
theorem dL_law_1385 : decode cL_law 1385 = .ok (.invokevirtual 215, 3) := by decide +kernel
theorem dL_law_1388 : decode cL_law 1388 = .ok (.aload_n 2, 1) := by decide +kernel
theorem dL_law_1389 : decode cL_law 1389 = .ok (.aload_n 0, 1) := by decide +kernel
theorem dL_law_1390 : decode cL_law 1390 = .ok (.iload_n 3, 1) := by decide +kernel
theorem dL_law_1391 : decode cL_law 1391 = .ok (.iconst 1, 1) := by decide +kernel
theorem dL_law_1392 : decode cL_law 1392 = .ok (.iadd, 1) := by decide +kernel
theorem dL_law_1393 : decode cL_law 1393 = .ok (.iaload, 1) := by decide +kernel
theorem dL_law_1394 : decode cL_law 1394 = .ok (.aload_n 0, 1) := by decide +kernel
theorem dL_law_1395 : decode cL_law 1395 = .ok (.iload_n 3, 1) := by decide +kernel
theorem dL_law_1396 : decode cL_law 1396 = .ok (.iconst 2, 1) := by decide +kernel
theorem dL_law_1397 : decode cL_law 1397 = .ok (.iadd, 1) := by decide +kernel
theorem dL_law_1398 : decode cL_law 1398 = .ok (.iaload, 1) := by decide +kernel
theorem dL_law_1399 : decode cL_law 1399 = .ok (.invokevirtual 218, 3) := by decide +kernel
theorem dL_law_1402 : decode cL_law 1402 = .ok (.if_icmp .eq 71, 3) := by decide +kernel
theorem dL_law_1405 : decode cL_law 1405 = .ok (.iconst 0, 1) := by decide +kernel
theorem dL_law_1406 : decode cL_law 1406 = .ok (.ireturn, 1) := by decide +kernel
theorem dL_law_1407 : decode cL_law 1407 = .ok (.aload_n 1, 1) := by decide +kernel
theorem dL_law_1408 : decode cL_law 1408 = .ok (.aload_n 0, 1) := by decide +kernel
theorem dL_law_1409 : decode cL_law 1409 = .ok (.iload_n 3, 1) := by decide +kernel
theorem dL_law_1410 : decode cL_law 1410 = .ok (.iconst 1, 1) := by decide +kernel
theorem dL_law_1411 : decode cL_law 1411 = .ok (.iadd, 1) := by decide +kernel
theorem dL_law_1412 : decode cL_law 1412 = .ok (.iaload, 1) := by decide +kernel
theorem dL_law_1413 : decode cL_law 1413 = .ok (.aload_n 0, 1) := by decide +kernel
theorem dL_law_1414 : decode cL_law 1414 = .ok (.iload_n 3, 1) := by decide +kernel
theorem dL_law_1415 : decode cL_law 1415 = .ok (.iconst 2, 1) := by decide +kernel
theorem dL_law_1416 : decode cL_law 1416 = .ok (.iadd, 1) := by decide +kernel
theorem dL_law_1417 : decode cL_law 1417 = .ok (.iaload, 1) := by decide +kernel
theorem dL_law_1418 : decode cL_law 1418 = .ok (.invokevirtual 219, 3) := by decide +kernel
theorem dL_law_1421 : decode cL_law 1421 = .ok (.aload_n 2, 1) := by decide +kernel
theorem dL_law_1422 : decode cL_law 1422 = .ok (.aload_n 0, 1) := by decide +kernel
theorem dL_law_1423 : decode cL_law 1423 = .ok (.iload_n 3, 1) := by decide +kernel
theorem dL_law_1424 : decode cL_law 1424 = .ok (.iconst 1, 1) := by decide +kernel
theorem dL_law_1425 : decode cL_law 1425 = .ok (.iadd, 1) := by decide +kernel
theorem dL_law_1426 : decode cL_law 1426 = .ok (.iaload, 1) := by decide +kernel
theorem dL_law_1427 : decode cL_law 1427 = .ok (.aload_n 0, 1) := by decide +kernel
theorem dL_law_1428 : decode cL_law 1428 = .ok (.iload_n 3, 1) := by decide +kernel
theorem dL_law_1429 : decode cL_law 1429 = .ok (.iconst 2, 1) := by decide +kernel
theorem dL_law_1430 : decode cL_law 1430 = .ok (.iadd, 1) := by decide +kernel
theorem dL_law_1431 : decode cL_law 1431 = .ok (.iaload, 1) := by decide +kernel
theorem dL_law_1432 : decode cL_law 1432 = .ok (.invokevirtual 222, 3) := by decide +kernel
theorem dL_law_1435 : decode cL_law 1435 = .ok (.if_icmp .eq 38, 3) := by decide +kernel
theorem dL_law_1438 : decode cL_law 1438 = .ok (.iconst 0, 1) := by decide +kernel
theorem dL_law_1439 : decode cL_law 1439 = .ok (.ireturn, 1) := by decide +kernel
theorem dL_law_1440 : decode cL_law 1440 = .ok (.aload_n 1, 1) := by decide +kernel
theorem dL_law_1441 : decode cL_law 1441 = .ok (.aload_n 0, 1) := by decide +kernel
theorem dL_law_1442 : decode cL_law 1442 = .ok (.iload_n 3, 1) := by decide +kernel
theorem dL_law_1443 : decode cL_law 1443 = .ok (.iconst 1, 1) := by decide +kernel
theorem dL_law_1444 : decode cL_law 1444 = .ok (.iadd, 1) := by decide +kernel
theorem dL_law_1445 : decode cL_law 1445 = .ok (.iaload, 1) := by decide +kernel
theorem dL_law_1446 : decode cL_law 1446 = .ok (.aload_n 0, 1) := by decide +kernel
theorem dL_law_1447 : decode cL_law 1447 = .ok (.iload_n 3, 1) := by decide +kernel
theorem dL_law_1448 : decode cL_law 1448 = .ok (.iconst 2, 1) := by decide +kernel
theorem dL_law_1449 : decode cL_law 1449 = .ok (.iadd, 1) := by decide +kernel
theorem dL_law_1450 : decode cL_law 1450 = .ok (.iaload, 1) := by decide +kernel
theorem dL_law_1451 : decode cL_law 1451 = .ok (.invokevirtual 223, 3) := by decide +kernel
theorem dL_law_1454 : decode cL_law 1454 = .ok (.aload_n 2, 1) := by decide +kernel
theorem dL_law_1455 : decode cL_law 1455 = .ok (.aload_n 0, 1) := by decide +kernel
theorem dL_law_1456 : decode cL_law 1456 = .ok (.iload_n 3, 1) := by decide +kernel
theorem dL_law_1457 : decode cL_law 1457 = .ok (.iconst 1, 1) := by decide +kernel
theorem dL_law_1458 : decode cL_law 1458 = .ok (.iadd, 1) := by decide +kernel
theorem dL_law_1459 : decode cL_law 1459 = .ok (.iaload, 1) := by decide +kernel
theorem dL_law_1460 : decode cL_law 1460 = .ok (.aload_n 0, 1) := by decide +kernel
theorem dL_law_1461 : decode cL_law 1461 = .ok (.iload_n 3, 1) := by decide +kernel
theorem dL_law_1462 : decode cL_law 1462 = .ok (.iconst 2, 1) := by decide +kernel
theorem dL_law_1463 : decode cL_law 1463 = .ok (.iadd, 1) := by decide +kernel
theorem dL_law_1464 : decode cL_law 1464 = .ok (.iaload, 1) := by decide +kernel
theorem dL_law_1465 : decode cL_law 1465 = .ok (.invokevirtual 226, 3) := by decide +kernel
theorem dL_law_1468 : decode cL_law 1468 = .ok (.if_icmp .eq 5, 3) := by decide +kernel
theorem dL_law_1471 : decode cL_law 1471 = .ok (.iconst 0, 1) := by decide +kernel
theorem dL_law_1472 : decode cL_law 1472 = .ok (.ireturn, 1) := by decide +kernel
theorem dL_law_1473 : decode cL_law 1473 = .ok (.iinc 3 5, 3) := by decide +kernel
theorem dL_law_1476 : decode cL_law 1476 = .ok (.goto (-1458), 3) := by decide +kernel
theorem dL_law_1479 : decode cL_law 1479 = .ok (.iconst 1, 1) := by decide +kernel
theorem dL_law_1480 : decode cL_law 1480 = .ok (.ireturn, 1) := by decide +kernel
