/-! ===== the tables say what the bytes and the words say ===== -/
set_option maxRecDepth 100000 in
theorem pt_ok1285_0 : pt_q1285_0.all (pm_chk pt_cl pt_me 1285) = true := by decide +kernel
set_option maxRecDepth 100000 in
theorem pt_ok1293_0 : pt_q1293_0.all (pm_chk pt_cl pt_me 1293) = true := by decide +kernel
set_option maxRecDepth 100000 in
theorem pt_ok1291_0 : pt_q1291_0.all (pm_chk pt_cl pt_me 1291) = true := by decide +kernel
set_option maxRecDepth 100000 in
theorem pt_ok1289_0 : pt_q1289_0.all (pm_chk pt_cl pt_me 1289) = true := by decide +kernel
set_option maxRecDepth 100000 in
theorem pt_ok1290_0 : pt_q1290_0.all (pm_chk pt_cl pt_me 1290) = true := by decide +kernel
set_option maxRecDepth 100000 in
theorem pt_ok1290_1 : pt_q1290_1.all (pm_chk pt_cl pt_me 1290) = true := by decide +kernel
set_option maxRecDepth 100000 in
theorem pt_ok1294_0 : pt_q1294_0.all (pm_chk pt_cl pt_me 1294) = true := by decide +kernel
set_option maxRecDepth 100000 in
theorem pt_ok1295_0 : pt_q1295_0.all (pm_chk pt_cl pt_me 1295) = true := by decide +kernel
set_option maxRecDepth 100000 in
theorem pt_ok1296_0 : pt_q1296_0.all (pm_chk pt_cl pt_me 1296) = true := by decide +kernel
set_option maxRecDepth 100000 in
theorem pt_ok1298_0 : pt_q1298_0.all (pm_chk pt_cl pt_me 1298) = true := by decide +kernel
set_option maxRecDepth 100000 in
theorem pt_ok1297_0 : pt_q1297_0.all (pm_chk pt_cl pt_me 1297) = true := by decide +kernel
set_option maxRecDepth 100000 in
theorem pt_ok1300_0 : pt_q1300_0.all (pm_chk pt_cl pt_me 1300) = true := by decide +kernel
set_option maxRecDepth 100000 in
theorem pt_ok1299_0 : pt_q1299_0.all (pm_chk pt_cl pt_me 1299) = true := by decide +kernel
set_option maxRecDepth 100000 in
theorem pt_ok1301_0 : pt_q1301_0.all (pm_chk pt_cl pt_me 1301) = true := by decide +kernel
set_option maxRecDepth 100000 in
theorem pt_ok1302_0 : pt_q1302_0.all (pm_chk pt_cl pt_me 1302) = true := by decide +kernel
set_option maxRecDepth 100000 in
theorem pt_ok1303_0 : pt_q1303_0.all (pm_chk pt_cl pt_me 1303) = true := by decide +kernel
set_option maxRecDepth 100000 in
theorem pt_ok1304_0 : pt_q1304_0.all (pm_chk pt_cl pt_me 1304) = true := by decide +kernel
set_option maxRecDepth 100000 in
theorem pt_ok1306_0 : pt_q1306_0.all (pm_chk pt_cl pt_me 1306) = true := by decide +kernel
set_option maxRecDepth 100000 in
theorem pt_ok1305_0 : pt_q1305_0.all (pm_chk pt_cl pt_me 1305) = true := by decide +kernel
set_option maxRecDepth 100000 in
theorem pt_ok1307_0 : pt_q1307_0.all (pm_chk pt_cl pt_me 1307) = true := by decide +kernel
set_option maxRecDepth 100000 in
theorem pt_ok1308_0 : pt_q1308_0.all (pm_chk pt_cl pt_me 1308) = true := by decide +kernel
set_option maxRecDepth 100000 in
theorem pt_ok1309_0 : pt_q1309_0.all (pm_chk pt_cl pt_me 1309) = true := by decide +kernel
set_option maxRecDepth 100000 in
theorem pt_ok1309_1 : pt_q1309_1.all (pm_chk pt_cl pt_me 1309) = true := by decide +kernel
set_option maxRecDepth 100000 in
theorem pt_ok1316_0 : pt_q1316_0.all (pm_chk pt_cl pt_me 1316) = true := by decide +kernel
set_option maxRecDepth 100000 in
theorem pt_ok1315_0 : pt_q1315_0.all (pm_chk pt_cl pt_me 1315) = true := by decide +kernel
set_option maxRecDepth 100000 in
theorem pt_ok1310_0 : pt_q1310_0.all (pm_chk pt_cl pt_me 1310) = true := by decide +kernel
set_option maxRecDepth 100000 in
theorem pt_ok1314_0 : pt_q1314_0.all (pm_chk pt_cl pt_me 1314) = true := by decide +kernel
set_option maxRecDepth 100000 in
theorem pt_ok1311_0 : pt_q1311_0.all (pm_chk pt_cl pt_me 1311) = true := by decide +kernel
set_option maxRecDepth 100000 in
theorem pt_ok1313_0 : pt_q1313_0.all (pm_chk pt_cl pt_me 1313) = true := by decide +kernel
set_option maxRecDepth 100000 in
theorem pt_ok1312_0 : pt_q1312_0.all (pm_chk pt_cl pt_me 1312) = true := by decide +kernel
set_option maxRecDepth 100000 in
theorem pt_ok1317_0 : pt_q1317_0.all (pm_chk pt_cl pt_me 1317) = true := by decide +kernel
set_option maxRecDepth 100000 in
theorem pt_ok1318_0 : pt_q1318_0.all (pm_chk pt_cl pt_me 1318) = true := by decide +kernel
set_option maxRecDepth 100000 in
theorem pt_ok1240_0 : pt_q1240_0.all (pm_chk pt_cl pt_me 1240) = true := by decide +kernel
set_option maxRecDepth 100000 in
theorem pt_ok1319_0 : pt_q1319_0.all (pm_chk pt_cl pt_me 1319) = true := by decide +kernel
set_option maxRecDepth 100000 in
theorem pt_ok1321_0 : pt_q1321_0.all (pm_chk pt_cl pt_me 1321) = true := by decide +kernel
set_option maxRecDepth 100000 in
theorem pt_ok1320_0 : pt_q1320_0.all (pm_chk pt_cl pt_me 1320) = true := by decide +kernel
set_option maxRecDepth 100000 in
theorem pt_ok1320_1 : pt_q1320_1.all (pm_chk pt_cl pt_me 1320) = true := by decide +kernel
set_option maxRecDepth 100000 in
theorem pt_ok1323_0 : pt_q1323_0.all (pm_chk pt_cl pt_me 1323) = true := by decide +kernel
set_option maxRecDepth 100000 in
theorem pt_ok1322_0 : pt_q1322_0.all (pm_chk pt_cl pt_me 1322) = true := by decide +kernel
set_option maxRecDepth 100000 in
theorem pt_ok1325_0 : pt_q1325_0.all (pm_chk pt_cl pt_me 1325) = true := by decide +kernel
set_option maxRecDepth 100000 in
theorem pt_ok1324_0 : pt_q1324_0.all (pm_chk pt_cl pt_me 1324) = true := by decide +kernel
set_option maxRecDepth 100000 in
theorem pt_ok1326_0 : pt_q1326_0.all (pm_chk pt_cl pt_me 1326) = true := by decide +kernel
set_option maxRecDepth 100000 in
theorem pt_ok1326_1 : pt_q1326_1.all (pm_chk pt_cl pt_me 1326) = true := by decide +kernel
set_option maxRecDepth 100000 in
theorem pt_ok1327_0 : pt_q1327_0.all (pm_chk pt_cl pt_me 1327) = true := by decide +kernel
set_option maxRecDepth 100000 in
theorem pt_ok1328_0 : pt_q1328_0.all (pm_chk pt_cl pt_me 1328) = true := by decide +kernel
set_option maxRecDepth 100000 in
theorem pt_ok1329_0 : pt_q1329_0.all (pm_chk pt_cl pt_me 1329) = true := by decide +kernel
set_option maxRecDepth 100000 in
theorem pt_ok1329_1 : pt_q1329_1.all (pm_chk pt_cl pt_me 1329) = true := by decide +kernel
set_option maxRecDepth 100000 in
theorem pt_ok1329_2 : pt_q1329_2.all (pm_chk pt_cl pt_me 1329) = true := by decide +kernel
set_option maxRecDepth 100000 in
theorem pt_ok1329_3 : pt_q1329_3.all (pm_chk pt_cl pt_me 1329) = true := by decide +kernel
set_option maxRecDepth 100000 in
theorem pt_ok1_0 : pt_q1_0.all (pm_chk pt_cl pt_me 1) = true := by decide +kernel
set_option maxRecDepth 100000 in
theorem pt_ok1_1 : pt_q1_1.all (pm_chk pt_cl pt_me 1) = true := by decide +kernel
set_option maxRecDepth 100000 in
theorem pt_ok1_2 : pt_q1_2.all (pm_chk pt_cl pt_me 1) = true := by decide +kernel
set_option maxRecDepth 100000 in
theorem pt_ok1_3 : pt_q1_3.all (pm_chk pt_cl pt_me 1) = true := by decide +kernel
set_option maxRecDepth 100000 in
theorem pt_ok1_4 : pt_q1_4.all (pm_chk pt_cl pt_me 1) = true := by decide +kernel
set_option maxRecDepth 100000 in
theorem pt_ok1_5 : pt_q1_5.all (pm_chk pt_cl pt_me 1) = true := by decide +kernel
set_option maxRecDepth 100000 in
theorem pt_ok1_6 : pt_q1_6.all (pm_chk pt_cl pt_me 1) = true := by decide +kernel
set_option maxRecDepth 100000 in
theorem pt_ok1_7 : pt_q1_7.all (pm_chk pt_cl pt_me 1) = true := by decide +kernel
set_option maxRecDepth 100000 in
theorem pt_ok1_8 : pt_q1_8.all (pm_chk pt_cl pt_me 1) = true := by decide +kernel
set_option maxRecDepth 100000 in
theorem pt_ok1_9 : pt_q1_9.all (pm_chk pt_cl pt_me 1) = true := by decide +kernel
set_option maxRecDepth 100000 in
theorem pt_ok1_10 : pt_q1_10.all (pm_chk pt_cl pt_me 1) = true := by decide +kernel
set_option maxRecDepth 100000 in
theorem pt_ok1_11 : pt_q1_11.all (pm_chk pt_cl pt_me 1) = true := by decide +kernel
set_option maxRecDepth 100000 in
theorem pt_ok1_12 : pt_q1_12.all (pm_chk pt_cl pt_me 1) = true := by decide +kernel
set_option maxRecDepth 100000 in
theorem pt_ok1_13 : pt_q1_13.all (pm_chk pt_cl pt_me 1) = true := by decide +kernel
set_option maxRecDepth 100000 in
theorem pt_ok1_14 : pt_q1_14.all (pm_chk pt_cl pt_me 1) = true := by decide +kernel
set_option maxRecDepth 100000 in
theorem pt_ok1_15 : pt_q1_15.all (pm_chk pt_cl pt_me 1) = true := by decide +kernel
set_option maxRecDepth 100000 in
theorem pt_ok1_16 : pt_q1_16.all (pm_chk pt_cl pt_me 1) = true := by decide +kernel
set_option maxRecDepth 100000 in
theorem pt_ok1_17 : pt_q1_17.all (pm_chk pt_cl pt_me 1) = true := by decide +kernel
