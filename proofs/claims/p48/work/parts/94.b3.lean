/-! ===== the law's tables say what the bytes and the words say ===== -/
set_option maxRecDepth 100000 in
theorem qt_ok4_0 : qt_q4_0.all (qm_chk qt_cl qt_qs qt_sx qt_me 4) = true := by decide +kernel
set_option maxRecDepth 100000 in
theorem qt_ok4_1 : qt_q4_1.all (qm_chk qt_cl qt_qs qt_sx qt_me 4) = true := by decide +kernel
set_option maxRecDepth 100000 in
theorem qt_ok5_0 : qt_q5_0.all (qm_chk qt_cl qt_qs qt_sx qt_me 5) = true := by decide +kernel
set_option maxRecDepth 100000 in
theorem qt_ok5_1 : qt_q5_1.all (qm_chk qt_cl qt_qs qt_sx qt_me 5) = true := by decide +kernel
set_option maxRecDepth 100000 in
theorem qt_ok7_0 : qt_q7_0.all (qm_chk qt_cl qt_qs qt_sx qt_me 7) = true := by decide +kernel
set_option maxRecDepth 100000 in
theorem qt_ok8_0 : qt_q8_0.all (qm_chk qt_cl qt_qs qt_sx qt_me 8) = true := by decide +kernel
set_option maxRecDepth 100000 in
theorem qt_ok8_1 : qt_q8_1.all (qm_chk qt_cl qt_qs qt_sx qt_me 8) = true := by decide +kernel
set_option maxRecDepth 100000 in
theorem qt_ok8_2 : qt_q8_2.all (qm_chk qt_cl qt_qs qt_sx qt_me 8) = true := by decide +kernel
set_option maxRecDepth 100000 in
theorem qt_ok8_3 : qt_q8_3.all (qm_chk qt_cl qt_qs qt_sx qt_me 8) = true := by decide +kernel
set_option maxRecDepth 100000 in
theorem qt_ok8_4 : qt_q8_4.all (qm_chk qt_cl qt_qs qt_sx qt_me 8) = true := by decide +kernel
set_option maxRecDepth 100000 in
theorem qt_ok8_5 : qt_q8_5.all (qm_chk qt_cl qt_qs qt_sx qt_me 8) = true := by decide +kernel
set_option maxRecDepth 100000 in
theorem qt_ok9_0 : qt_q9_0.all (qm_chk qt_cl qt_qs qt_sx qt_me 9) = true := by decide +kernel
set_option maxRecDepth 100000 in
theorem qt_ok9_1 : qt_q9_1.all (qm_chk qt_cl qt_qs qt_sx qt_me 9) = true := by decide +kernel
set_option maxRecDepth 100000 in
theorem qt_ok1204_0 : qt_q1204_0.all (qm_chk qt_cl qt_qs qt_sx qt_me 1204) = true := by decide +kernel
set_option maxRecDepth 100000 in
theorem qt_ok1557_0 : qt_q1557_0.all (qm_chk qt_cl qt_qs qt_sx qt_me 1557) = true := by decide +kernel
set_option maxRecDepth 100000 in
theorem qt_ok1558_0 : qt_q1558_0.all (qm_chk qt_cl qt_qs qt_sx qt_me 1558) = true := by decide +kernel
set_option maxRecDepth 100000 in
theorem qt_ok1559_0 : qt_q1559_0.all (qm_chk qt_cl qt_qs qt_sx qt_me 1559) = true := by decide +kernel
set_option maxRecDepth 100000 in
theorem qt_ok1560_0 : qt_q1560_0.all (qm_chk qt_cl qt_qs qt_sx qt_me 1560) = true := by decide +kernel
set_option maxRecDepth 100000 in
theorem qt_ok1563_0 : qt_q1563_0.all (qm_chk qt_cl qt_qs qt_sx qt_me 1563) = true := by decide +kernel
set_option maxRecDepth 100000 in
theorem qt_ok1564_0 : qt_q1564_0.all (qm_chk qt_cl qt_qs qt_sx qt_me 1564) = true := by decide +kernel
set_option maxRecDepth 100000 in
theorem qt_ok1565_0 : qt_q1565_0.all (qm_chk qt_cl qt_qs qt_sx qt_me 1565) = true := by decide +kernel
set_option maxRecDepth 100000 in
theorem qt_ok1566_0 : qt_q1566_0.all (qm_chk qt_cl qt_qs qt_sx qt_me 1566) = true := by decide +kernel
set_option maxRecDepth 100000 in
theorem qt_ok1569_0 : qt_q1569_0.all (qm_chk qt_cl qt_qs qt_sx qt_me 1569) = true := by decide +kernel
set_option maxRecDepth 100000 in
theorem qt_ok1570_0 : qt_q1570_0.all (qm_chk qt_cl qt_qs qt_sx qt_me 1570) = true := by decide +kernel
set_option maxRecDepth 100000 in
theorem qt_ok1571_0 : qt_q1571_0.all (qm_chk qt_cl qt_qs qt_sx qt_me 1571) = true := by decide +kernel
set_option maxRecDepth 100000 in
theorem qt_ok1572_0 : qt_q1572_0.all (qm_chk qt_cl qt_qs qt_sx qt_me 1572) = true := by decide +kernel
set_option maxRecDepth 100000 in
theorem qt_ok1573_0 : qt_q1573_0.all (qm_chk qt_cl qt_qs qt_sx qt_me 1573) = true := by decide +kernel
set_option maxRecDepth 100000 in
theorem qt_ok1574_0 : qt_q1574_0.all (qm_chk qt_cl qt_qs qt_sx qt_me 1574) = true := by decide +kernel
set_option maxRecDepth 100000 in
theorem qt_ok6_0 : qt_q6_0.all (qm_chk qt_cl qt_qs qt_sx qt_me 6) = true := by decide +kernel
set_option maxRecDepth 100000 in
theorem qt_ok6_2 : qt_q6_2.all (qm_chk qt_cl qt_qs qt_sx qt_me 6) = true := by decide +kernel
set_option maxRecDepth 100000 in
theorem qt_ok6_4 : qt_q6_4.all (qm_chk qt_cl qt_qs qt_sx qt_me 6) = true := by decide +kernel
set_option maxRecDepth 100000 in
theorem qt_ok6_5 : qt_q6_5.all (qm_chk qt_cl qt_qs qt_sx qt_me 6) = true := by decide +kernel
set_option maxRecDepth 100000 in
theorem qt_ok6_6 : qt_q6_6.all (qm_chk qt_cl qt_qs qt_sx qt_me 6) = true := by decide +kernel
