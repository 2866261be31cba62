/-! ===== the law's tables say what the bytes and the words say ===== -/
set_option maxRecDepth 100000 in
theorem qt_ok1501_0 : qt_q1501_0.all (qm_chk qt_cl qt_qs qt_sx qt_me 1501) = true := by decide +kernel
set_option maxRecDepth 100000 in
theorem qt_ok1502_0 : qt_q1502_0.all (qm_chk qt_cl qt_qs qt_sx qt_me 1502) = true := by decide +kernel
set_option maxRecDepth 100000 in
theorem qt_ok1503_0 : qt_q1503_0.all (qm_chk qt_cl qt_qs qt_sx qt_me 1503) = true := by decide +kernel
set_option maxRecDepth 100000 in
theorem qt_ok1504_0 : qt_q1504_0.all (qm_chk qt_cl qt_qs qt_sx qt_me 1504) = true := by decide +kernel
set_option maxRecDepth 100000 in
theorem qt_ok1505_0 : qt_q1505_0.all (qm_chk qt_cl qt_qs qt_sx qt_me 1505) = true := by decide +kernel
set_option maxRecDepth 100000 in
theorem qt_ok1506_0 : qt_q1506_0.all (qm_chk qt_cl qt_qs qt_sx qt_me 1506) = true := by decide +kernel
set_option maxRecDepth 100000 in
theorem qt_ok1507_0 : qt_q1507_0.all (qm_chk qt_cl qt_qs qt_sx qt_me 1507) = true := by decide +kernel
set_option maxRecDepth 100000 in
theorem qt_ok1511_0 : qt_q1511_0.all (qm_chk qt_cl qt_qs qt_sx qt_me 1511) = true := by decide +kernel
set_option maxRecDepth 100000 in
theorem qt_ok1512_0 : qt_q1512_0.all (qm_chk qt_cl qt_qs qt_sx qt_me 1512) = true := by decide +kernel
set_option maxRecDepth 100000 in
theorem qt_ok1202_0 : qt_q1202_0.all (qm_chk qt_cl qt_qs qt_sx qt_me 1202) = true := by decide +kernel
set_option maxRecDepth 100000 in
theorem qt_ok1202_1 : qt_q1202_1.all (qm_chk qt_cl qt_qs qt_sx qt_me 1202) = true := by decide +kernel
set_option maxRecDepth 100000 in
theorem qt_ok1202_2 : qt_q1202_2.all (qm_chk qt_cl qt_qs qt_sx qt_me 1202) = true := by decide +kernel
set_option maxRecDepth 100000 in
theorem qt_ok1202_3 : qt_q1202_3.all (qm_chk qt_cl qt_qs qt_sx qt_me 1202) = true := by decide +kernel
set_option maxRecDepth 100000 in
theorem qt_ok1202_4 : qt_q1202_4.all (qm_chk qt_cl qt_qs qt_sx qt_me 1202) = true := by decide +kernel
set_option maxRecDepth 100000 in
theorem qt_ok1202_5 : qt_q1202_5.all (qm_chk qt_cl qt_qs qt_sx qt_me 1202) = true := by decide +kernel
set_option maxRecDepth 100000 in
theorem qt_ok1202_6 : qt_q1202_6.all (qm_chk qt_cl qt_qs qt_sx qt_me 1202) = true := by decide +kernel
set_option maxRecDepth 100000 in
theorem qt_ok1202_7 : qt_q1202_7.all (qm_chk qt_cl qt_qs qt_sx qt_me 1202) = true := by decide +kernel
set_option maxRecDepth 100000 in
theorem qt_ok1202_8 : qt_q1202_8.all (qm_chk qt_cl qt_qs qt_sx qt_me 1202) = true := by decide +kernel
set_option maxRecDepth 100000 in
theorem qt_ok1201_0 : qt_q1201_0.all (qm_chk qt_cl qt_qs qt_sx qt_me 1201) = true := by decide +kernel
set_option maxRecDepth 100000 in
theorem qt_ok3_0 : qt_q3_0.all (qm_chk qt_cl qt_qs qt_sx qt_me 3) = true := by decide +kernel
set_option maxRecDepth 100000 in
theorem qt_ok2_0 : qt_q2_0.all (qm_chk qt_cl qt_qs qt_sx qt_me 2) = true := by decide +kernel
set_option maxRecDepth 100000 in
theorem qt_ok1521_0 : qt_q1521_0.all (qm_chk qt_cl qt_qs qt_sx qt_me 1521) = true := by decide +kernel
set_option maxRecDepth 100000 in
theorem qt_ok1522_0 : qt_q1522_0.all (qm_chk qt_cl qt_qs qt_sx qt_me 1522) = true := by decide +kernel
set_option maxRecDepth 100000 in
theorem qt_ok1523_0 : qt_q1523_0.all (qm_chk qt_cl qt_qs qt_sx qt_me 1523) = true := by decide +kernel
set_option maxRecDepth 100000 in
theorem qt_ok1524_0 : qt_q1524_0.all (qm_chk qt_cl qt_qs qt_sx qt_me 1524) = true := by decide +kernel
set_option maxRecDepth 100000 in
theorem qt_ok1526_0 : qt_q1526_0.all (qm_chk qt_cl qt_qs qt_sx qt_me 1526) = true := by decide +kernel
set_option maxRecDepth 100000 in
theorem qt_ok1527_0 : qt_q1527_0.all (qm_chk qt_cl qt_qs qt_sx qt_me 1527) = true := by decide +kernel
set_option maxRecDepth 100000 in
theorem qt_ok1528_0 : qt_q1528_0.all (qm_chk qt_cl qt_qs qt_sx qt_me 1528) = true := by decide +kernel
set_option maxRecDepth 100000 in
theorem qt_ok1529_0 : qt_q1529_0.all (qm_chk qt_cl qt_qs qt_sx qt_me 1529) = true := by decide +kernel
set_option maxRecDepth 100000 in
theorem qt_ok1530_0 : qt_q1530_0.all (qm_chk qt_cl qt_qs qt_sx qt_me 1530) = true := by decide +kernel
