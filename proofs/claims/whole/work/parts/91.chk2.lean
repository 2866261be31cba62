/-! ===== the tables say what the bytes and the words say ===== -/
set_option maxRecDepth 100000 in
theorem pt_ok1222_0 : pt_q1222_0.all (pm_chk pt_cl pt_me 1222) = true := by decide +kernel
set_option maxRecDepth 100000 in
theorem pt_ok1222_1 : pt_q1222_1.all (pm_chk pt_cl pt_me 1222) = true := by decide +kernel
set_option maxRecDepth 100000 in
theorem pt_ok1238_0 : pt_q1238_0.all (pm_chk pt_cl pt_me 1238) = true := by decide +kernel
set_option maxRecDepth 100000 in
theorem pt_ok1238_1 : pt_q1238_1.all (pm_chk pt_cl pt_me 1238) = true := by decide +kernel
set_option maxRecDepth 100000 in
theorem pt_ok1238_2 : pt_q1238_2.all (pm_chk pt_cl pt_me 1238) = true := by decide +kernel
set_option maxRecDepth 100000 in
theorem pt_ok1204_0 : pt_q1204_0.all (pm_chk pt_cl pt_me 1204) = true := by decide +kernel
set_option maxRecDepth 100000 in
theorem pt_ok1207_0 : pt_q1207_0.all (pm_chk pt_cl pt_me 1207) = true := by decide +kernel
set_option maxRecDepth 100000 in
theorem pt_ok1208_0 : pt_q1208_0.all (pm_chk pt_cl pt_me 1208) = true := by decide +kernel
set_option maxRecDepth 100000 in
theorem pt_ok1209_0 : pt_q1209_0.all (pm_chk pt_cl pt_me 1209) = true := by decide +kernel
set_option maxRecDepth 100000 in
theorem pt_ok1202_0 : pt_q1202_0.all (pm_chk pt_cl pt_me 1202) = true := by decide +kernel
set_option maxRecDepth 100000 in
theorem pt_ok1237_0 : pt_q1237_0.all (pm_chk pt_cl pt_me 1237) = true := by decide +kernel
set_option maxRecDepth 100000 in
theorem pt_ok1213_0 : pt_q1213_0.all (pm_chk pt_cl pt_me 1213) = true := by decide +kernel
set_option maxRecDepth 100000 in
theorem pt_ok1213_1 : pt_q1213_1.all (pm_chk pt_cl pt_me 1213) = true := by decide +kernel
set_option maxRecDepth 100000 in
theorem pt_ok1213_2 : pt_q1213_2.all (pm_chk pt_cl pt_me 1213) = true := by decide +kernel
set_option maxRecDepth 100000 in
theorem pt_ok1210_0 : pt_q1210_0.all (pm_chk pt_cl pt_me 1210) = true := by decide +kernel
set_option maxRecDepth 100000 in
theorem pt_ok1211_0 : pt_q1211_0.all (pm_chk pt_cl pt_me 1211) = true := by decide +kernel
set_option maxRecDepth 100000 in
theorem pt_ok1212_0 : pt_q1212_0.all (pm_chk pt_cl pt_me 1212) = true := by decide +kernel
set_option maxRecDepth 100000 in
theorem pt_ok1215_0 : pt_q1215_0.all (pm_chk pt_cl pt_me 1215) = true := by decide +kernel
set_option maxRecDepth 100000 in
theorem pt_ok1236_0 : pt_q1236_0.all (pm_chk pt_cl pt_me 1236) = true := by decide +kernel
set_option maxRecDepth 100000 in
theorem pt_ok1236_1 : pt_q1236_1.all (pm_chk pt_cl pt_me 1236) = true := by decide +kernel
set_option maxRecDepth 100000 in
theorem pt_ok1216_0 : pt_q1216_0.all (pm_chk pt_cl pt_me 1216) = true := by decide +kernel
set_option maxRecDepth 100000 in
theorem pt_ok1231_0 : pt_q1231_0.all (pm_chk pt_cl pt_me 1231) = true := by decide +kernel
set_option maxRecDepth 100000 in
theorem pt_ok1226_0 : pt_q1226_0.all (pm_chk pt_cl pt_me 1226) = true := by decide +kernel
set_option maxRecDepth 100000 in
theorem pt_ok1205_0 : pt_q1205_0.all (pm_chk pt_cl pt_me 1205) = true := by decide +kernel
set_option maxRecDepth 100000 in
theorem pt_ok1214_0 : pt_q1214_0.all (pm_chk pt_cl pt_me 1214) = true := by decide +kernel
set_option maxRecDepth 100000 in
theorem pt_ok1221_0 : pt_q1221_0.all (pm_chk pt_cl pt_me 1221) = true := by decide +kernel
set_option maxRecDepth 100000 in
theorem pt_ok1232_0 : pt_q1232_0.all (pm_chk pt_cl pt_me 1232) = true := by decide +kernel
set_option maxRecDepth 100000 in
theorem pt_ok1233_0 : pt_q1233_0.all (pm_chk pt_cl pt_me 1233) = true := by decide +kernel
set_option maxRecDepth 100000 in
theorem pt_ok1234_0 : pt_q1234_0.all (pm_chk pt_cl pt_me 1234) = true := by decide +kernel
set_option maxRecDepth 100000 in
theorem pt_ok1235_0 : pt_q1235_0.all (pm_chk pt_cl pt_me 1235) = true := by decide +kernel
set_option maxRecDepth 100000 in
theorem pt_ok1227_0 : pt_q1227_0.all (pm_chk pt_cl pt_me 1227) = true := by decide +kernel
set_option maxRecDepth 100000 in
theorem pt_ok1224_0 : pt_q1224_0.all (pm_chk pt_cl pt_me 1224) = true := by decide +kernel
set_option maxRecDepth 100000 in
theorem pt_ok1220_0 : pt_q1220_0.all (pm_chk pt_cl pt_me 1220) = true := by decide +kernel
set_option maxRecDepth 100000 in
theorem pt_ok1217_0 : pt_q1217_0.all (pm_chk pt_cl pt_me 1217) = true := by decide +kernel
set_option maxRecDepth 100000 in
theorem pt_ok1217_1 : pt_q1217_1.all (pm_chk pt_cl pt_me 1217) = true := by decide +kernel
set_option maxRecDepth 100000 in
theorem pt_ok1223_0 : pt_q1223_0.all (pm_chk pt_cl pt_me 1223) = true := by decide +kernel
set_option maxRecDepth 100000 in
theorem pt_ok1228_0 : pt_q1228_0.all (pm_chk pt_cl pt_me 1228) = true := by decide +kernel
set_option maxRecDepth 100000 in
theorem pt_ok1228_1 : pt_q1228_1.all (pm_chk pt_cl pt_me 1228) = true := by decide +kernel
set_option maxRecDepth 100000 in
theorem pt_ok1219_0 : pt_q1219_0.all (pm_chk pt_cl pt_me 1219) = true := by decide +kernel
set_option maxRecDepth 100000 in
theorem pt_ok1229_0 : pt_q1229_0.all (pm_chk pt_cl pt_me 1229) = true := by decide +kernel
set_option maxRecDepth 100000 in
theorem pt_ok1225_0 : pt_q1225_0.all (pm_chk pt_cl pt_me 1225) = true := by decide +kernel
set_option maxRecDepth 100000 in
theorem pt_ok1230_0 : pt_q1230_0.all (pm_chk pt_cl pt_me 1230) = true := by decide +kernel
set_option maxRecDepth 100000 in
theorem pt_ok1218_0 : pt_q1218_0.all (pm_chk pt_cl pt_me 1218) = true := by decide +kernel
set_option maxRecDepth 100000 in
theorem pt_ok1239_0 : pt_q1239_0.all (pm_chk pt_cl pt_me 1239) = true := by decide +kernel
set_option maxRecDepth 100000 in
theorem pt_ok1241_0 : pt_q1241_0.all (pm_chk pt_cl pt_me 1241) = true := by decide +kernel
set_option maxRecDepth 100000 in
theorem pt_ok1251_0 : pt_q1251_0.all (pm_chk pt_cl pt_me 1251) = true := by decide +kernel
set_option maxRecDepth 100000 in
theorem pt_ok1246_0 : pt_q1246_0.all (pm_chk pt_cl pt_me 1246) = true := by decide +kernel
set_option maxRecDepth 100000 in
theorem pt_ok1242_0 : pt_q1242_0.all (pm_chk pt_cl pt_me 1242) = true := by decide +kernel
set_option maxRecDepth 100000 in
theorem pt_ok1250_0 : pt_q1250_0.all (pm_chk pt_cl pt_me 1250) = true := by decide +kernel
set_option maxRecDepth 100000 in
theorem pt_ok1203_0 : pt_q1203_0.all (pm_chk pt_cl pt_me 1203) = true := by decide +kernel
set_option maxRecDepth 100000 in
theorem pt_ok1252_0 : pt_q1252_0.all (pm_chk pt_cl pt_me 1252) = true := by decide +kernel
set_option maxRecDepth 100000 in
theorem pt_ok1247_0 : pt_q1247_0.all (pm_chk pt_cl pt_me 1247) = true := by decide +kernel
set_option maxRecDepth 100000 in
theorem pt_ok1249_0 : pt_q1249_0.all (pm_chk pt_cl pt_me 1249) = true := by decide +kernel
set_option maxRecDepth 100000 in
theorem pt_ok1253_0 : pt_q1253_0.all (pm_chk pt_cl pt_me 1253) = true := by decide +kernel
set_option maxRecDepth 100000 in
theorem pt_ok1245_0 : pt_q1245_0.all (pm_chk pt_cl pt_me 1245) = true := by decide +kernel
set_option maxRecDepth 100000 in
theorem pt_ok1244_0 : pt_q1244_0.all (pm_chk pt_cl pt_me 1244) = true := by decide +kernel
set_option maxRecDepth 100000 in
theorem pt_ok1243_0 : pt_q1243_0.all (pm_chk pt_cl pt_me 1243) = true := by decide +kernel
set_option maxRecDepth 100000 in
theorem pt_ok1257_0 : pt_q1257_0.all (pm_chk pt_cl pt_me 1257) = true := by decide +kernel
set_option maxRecDepth 100000 in
theorem pt_ok1248_0 : pt_q1248_0.all (pm_chk pt_cl pt_me 1248) = true := by decide +kernel
set_option maxRecDepth 100000 in
theorem pt_ok1256_0 : pt_q1256_0.all (pm_chk pt_cl pt_me 1256) = true := by decide +kernel
set_option maxRecDepth 100000 in
theorem pt_ok1255_0 : pt_q1255_0.all (pm_chk pt_cl pt_me 1255) = true := by decide +kernel
set_option maxRecDepth 100000 in
theorem pt_ok1254_0 : pt_q1254_0.all (pm_chk pt_cl pt_me 1254) = true := by decide +kernel
set_option maxRecDepth 100000 in
theorem pt_ok1258_0 : pt_q1258_0.all (pm_chk pt_cl pt_me 1258) = true := by decide +kernel
set_option maxRecDepth 100000 in
theorem pt_ok1268_0 : pt_q1268_0.all (pm_chk pt_cl pt_me 1268) = true := by decide +kernel
set_option maxRecDepth 100000 in
theorem pt_ok1266_0 : pt_q1266_0.all (pm_chk pt_cl pt_me 1266) = true := by decide +kernel
set_option maxRecDepth 100000 in
theorem pt_ok1266_1 : pt_q1266_1.all (pm_chk pt_cl pt_me 1266) = true := by decide +kernel
set_option maxRecDepth 100000 in
theorem pt_ok1260_0 : pt_q1260_0.all (pm_chk pt_cl pt_me 1260) = true := by decide +kernel
set_option maxRecDepth 100000 in
theorem pt_ok1260_1 : pt_q1260_1.all (pm_chk pt_cl pt_me 1260) = true := by decide +kernel
set_option maxRecDepth 100000 in
theorem pt_ok1259_0 : pt_q1259_0.all (pm_chk pt_cl pt_me 1259) = true := by decide +kernel
set_option maxRecDepth 100000 in
theorem pt_ok1206_0 : pt_q1206_0.all (pm_chk pt_cl pt_me 1206) = true := by decide +kernel
set_option maxRecDepth 100000 in
theorem pt_ok1261_0 : pt_q1261_0.all (pm_chk pt_cl pt_me 1261) = true := by decide +kernel
set_option maxRecDepth 100000 in
theorem pt_ok1262_0 : pt_q1262_0.all (pm_chk pt_cl pt_me 1262) = true := by decide +kernel
set_option maxRecDepth 100000 in
theorem pt_ok1265_0 : pt_q1265_0.all (pm_chk pt_cl pt_me 1265) = true := by decide +kernel
set_option maxRecDepth 100000 in
theorem pt_ok1263_0 : pt_q1263_0.all (pm_chk pt_cl pt_me 1263) = true := by decide +kernel
set_option maxRecDepth 100000 in
theorem pt_ok1264_0 : pt_q1264_0.all (pm_chk pt_cl pt_me 1264) = true := by decide +kernel
set_option maxRecDepth 100000 in
theorem pt_ok1269_0 : pt_q1269_0.all (pm_chk pt_cl pt_me 1269) = true := by decide +kernel
set_option maxRecDepth 100000 in
theorem pt_ok1267_0 : pt_q1267_0.all (pm_chk pt_cl pt_me 1267) = true := by decide +kernel
set_option maxRecDepth 100000 in
theorem pt_ok1270_0 : pt_q1270_0.all (pm_chk pt_cl pt_me 1270) = true := by decide +kernel
set_option maxRecDepth 100000 in
theorem pt_ok1272_0 : pt_q1272_0.all (pm_chk pt_cl pt_me 1272) = true := by decide +kernel
set_option maxRecDepth 100000 in
theorem pt_ok1271_0 : pt_q1271_0.all (pm_chk pt_cl pt_me 1271) = true := by decide +kernel
set_option maxRecDepth 100000 in
theorem pt_ok1274_0 : pt_q1274_0.all (pm_chk pt_cl pt_me 1274) = true := by decide +kernel
set_option maxRecDepth 100000 in
theorem pt_ok1274_1 : pt_q1274_1.all (pm_chk pt_cl pt_me 1274) = true := by decide +kernel
set_option maxRecDepth 100000 in
theorem pt_ok1273_0 : pt_q1273_0.all (pm_chk pt_cl pt_me 1273) = true := by decide +kernel
set_option maxRecDepth 100000 in
theorem pt_ok1277_0 : pt_q1277_0.all (pm_chk pt_cl pt_me 1277) = true := by decide +kernel
set_option maxRecDepth 100000 in
theorem pt_ok1277_1 : pt_q1277_1.all (pm_chk pt_cl pt_me 1277) = true := by decide +kernel
set_option maxRecDepth 100000 in
theorem pt_ok1276_0 : pt_q1276_0.all (pm_chk pt_cl pt_me 1276) = true := by decide +kernel
set_option maxRecDepth 100000 in
theorem pt_ok1276_1 : pt_q1276_1.all (pm_chk pt_cl pt_me 1276) = true := by decide +kernel
set_option maxRecDepth 100000 in
theorem pt_ok1275_0 : pt_q1275_0.all (pm_chk pt_cl pt_me 1275) = true := by decide +kernel
set_option maxRecDepth 100000 in
theorem pt_ok1278_0 : pt_q1278_0.all (pm_chk pt_cl pt_me 1278) = true := by decide +kernel
set_option maxRecDepth 100000 in
theorem pt_ok1279_0 : pt_q1279_0.all (pm_chk pt_cl pt_me 1279) = true := by decide +kernel
set_option maxRecDepth 100000 in
theorem pt_ok1279_1 : pt_q1279_1.all (pm_chk pt_cl pt_me 1279) = true := by decide +kernel
set_option maxRecDepth 100000 in
theorem pt_ok1281_0 : pt_q1281_0.all (pm_chk pt_cl pt_me 1281) = true := by decide +kernel
set_option maxRecDepth 100000 in
theorem pt_ok1280_0 : pt_q1280_0.all (pm_chk pt_cl pt_me 1280) = true := by decide +kernel
set_option maxRecDepth 100000 in
theorem pt_ok1292_0 : pt_q1292_0.all (pm_chk pt_cl pt_me 1292) = true := by decide +kernel
set_option maxRecDepth 100000 in
theorem pt_ok1283_0 : pt_q1283_0.all (pm_chk pt_cl pt_me 1283) = true := by decide +kernel
set_option maxRecDepth 100000 in
theorem pt_ok1283_1 : pt_q1283_1.all (pm_chk pt_cl pt_me 1283) = true := by decide +kernel
set_option maxRecDepth 100000 in
theorem pt_ok1282_0 : pt_q1282_0.all (pm_chk pt_cl pt_me 1282) = true := by decide +kernel
set_option maxRecDepth 100000 in
theorem pt_ok1288_0 : pt_q1288_0.all (pm_chk pt_cl pt_me 1288) = true := by decide +kernel
set_option maxRecDepth 100000 in
theorem pt_ok1287_0 : pt_q1287_0.all (pm_chk pt_cl pt_me 1287) = true := by decide +kernel
set_option maxRecDepth 100000 in
theorem pt_ok1286_0 : pt_q1286_0.all (pm_chk pt_cl pt_me 1286) = true := by decide +kernel
set_option maxRecDepth 100000 in
theorem pt_ok1284_0 : pt_q1284_0.all (pm_chk pt_cl pt_me 1284) = true := by decide +kernel
