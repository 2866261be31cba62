/-! ===== the law's tables say what the bytes and the words say ===== -/
set_option maxRecDepth 100000 in
theorem qt_ok1501_0 : qt_q1501_0.all (qm_chk qt_cl qt_qs qt_sx qt_me 1501) = true := by decide +kernel
set_option maxRecDepth 100000 in
theorem qt_ok1502_0 : qt_q1502_0.all (qm_chk qt_cl qt_qs qt_sx qt_me 1502) = true := by decide +kernel
set_option maxRecDepth 100000 in
theorem qt_ok1503_0 : qt_q1503_0.all (qm_chk qt_cl qt_qs qt_sx qt_me 1503) = true := by decide +kernel
set_option maxRecDepth 100000 in
theorem qt_ok1504_0 : qt_q1504_0.all (qm_chk qt_cl qt_qs qt_sx qt_me 1504) = true := by decide +kernel
set_option maxRecDepth 100000 in
theorem qt_ok1505_0 : qt_q1505_0.all (qm_chk qt_cl qt_qs qt_sx qt_me 1505) = true := by decide +kernel
set_option maxRecDepth 100000 in
theorem qt_ok1506_0 : qt_q1506_0.all (qm_chk qt_cl qt_qs qt_sx qt_me 1506) = true := by decide +kernel
set_option maxRecDepth 100000 in
theorem qt_ok1507_0 : qt_q1507_0.all (qm_chk qt_cl qt_qs qt_sx qt_me 1507) = true := by decide +kernel
set_option maxRecDepth 100000 in
theorem qt_ok1511_0 : qt_q1511_0.all (qm_chk qt_cl qt_qs qt_sx qt_me 1511) = true := by decide +kernel
set_option maxRecDepth 100000 in
theorem qt_ok1512_0 : qt_q1512_0.all (qm_chk qt_cl qt_qs qt_sx qt_me 1512) = true := by decide +kernel
set_option maxRecDepth 100000 in
theorem qt_ok1202_0 : qt_q1202_0.all (qm_chk qt_cl qt_qs qt_sx qt_me 1202) = true := by decide +kernel
set_option maxRecDepth 100000 in
theorem qt_ok1202_1 : qt_q1202_1.all (qm_chk qt_cl qt_qs qt_sx qt_me 1202) = true := by decide +kernel
set_option maxRecDepth 100000 in
theorem qt_ok1202_2 : qt_q1202_2.all (qm_chk qt_cl qt_qs qt_sx qt_me 1202) = true := by decide +kernel
set_option maxRecDepth 100000 in
theorem qt_ok1202_3 : qt_q1202_3.all (qm_chk qt_cl qt_qs qt_sx qt_me 1202) = true := by decide +kernel
set_option maxRecDepth 100000 in
theorem qt_ok1202_4 : qt_q1202_4.all (qm_chk qt_cl qt_qs qt_sx qt_me 1202) = true := by decide +kernel
set_option maxRecDepth 100000 in
theorem qt_ok1202_5 : qt_q1202_5.all (qm_chk qt_cl qt_qs qt_sx qt_me 1202) = true := by decide +kernel
set_option maxRecDepth 100000 in
theorem qt_ok1202_6 : qt_q1202_6.all (qm_chk qt_cl qt_qs qt_sx qt_me 1202) = true := by decide +kernel
set_option maxRecDepth 100000 in
theorem qt_ok1202_7 : qt_q1202_7.all (qm_chk qt_cl qt_qs qt_sx qt_me 1202) = true := by decide +kernel
set_option maxRecDepth 100000 in
theorem qt_ok1202_8 : qt_q1202_8.all (qm_chk qt_cl qt_qs qt_sx qt_me 1202) = true := by decide +kernel
set_option maxRecDepth 100000 in
theorem qt_ok1201_0 : qt_q1201_0.all (qm_chk qt_cl qt_qs qt_sx qt_me 1201) = true := by decide +kernel
set_option maxRecDepth 100000 in
theorem qt_ok3_0 : qt_q3_0.all (qm_chk qt_cl qt_qs qt_sx qt_me 3) = true := by decide +kernel
set_option maxRecDepth 100000 in
theorem qt_ok2_0 : qt_q2_0.all (qm_chk qt_cl qt_qs qt_sx qt_me 2) = true := by decide +kernel
set_option maxRecDepth 100000 in
theorem qt_ok1521_0 : qt_q1521_0.all (qm_chk qt_cl qt_qs qt_sx qt_me 1521) = true := by decide +kernel
set_option maxRecDepth 100000 in
theorem qt_ok1522_0 : qt_q1522_0.all (qm_chk qt_cl qt_qs qt_sx qt_me 1522) = true := by decide +kernel
set_option maxRecDepth 100000 in
theorem qt_ok1523_0 : qt_q1523_0.all (qm_chk qt_cl qt_qs qt_sx qt_me 1523) = true := by decide +kernel
set_option maxRecDepth 100000 in
theorem qt_ok1524_0 : qt_q1524_0.all (qm_chk qt_cl qt_qs qt_sx qt_me 1524) = true := by decide +kernel
set_option maxRecDepth 100000 in
theorem qt_ok1526_0 : qt_q1526_0.all (qm_chk qt_cl qt_qs qt_sx qt_me 1526) = true := by decide +kernel
set_option maxRecDepth 100000 in
theorem qt_ok1527_0 : qt_q1527_0.all (qm_chk qt_cl qt_qs qt_sx qt_me 1527) = true := by decide +kernel
set_option maxRecDepth 100000 in
theorem qt_ok1528_0 : qt_q1528_0.all (qm_chk qt_cl qt_qs qt_sx qt_me 1528) = true := by decide +kernel
set_option maxRecDepth 100000 in
theorem qt_ok1529_0 : qt_q1529_0.all (qm_chk qt_cl qt_qs qt_sx qt_me 1529) = true := by decide +kernel
set_option maxRecDepth 100000 in
theorem qt_ok1530_0 : qt_q1530_0.all (qm_chk qt_cl qt_qs qt_sx qt_me 1530) = true := by decide +kernel
set_option maxRecDepth 100000 in
theorem qt_ok1531_0 : qt_q1531_0.all (qm_chk qt_cl qt_qs qt_sx qt_me 1531) = true := by decide +kernel
set_option maxRecDepth 100000 in
theorem qt_ok1534_0 : qt_q1534_0.all (qm_chk qt_cl qt_qs qt_sx qt_me 1534) = true := by decide +kernel
set_option maxRecDepth 100000 in
theorem qt_ok1535_0 : qt_q1535_0.all (qm_chk qt_cl qt_qs qt_sx qt_me 1535) = true := by decide +kernel
set_option maxRecDepth 100000 in
theorem qt_ok1537_0 : qt_q1537_0.all (qm_chk qt_cl qt_qs qt_sx qt_me 1537) = true := by decide +kernel
set_option maxRecDepth 100000 in
theorem qt_ok1540_0 : qt_q1540_0.all (qm_chk qt_cl qt_qs qt_sx qt_me 1540) = true := by decide +kernel
set_option maxRecDepth 100000 in
theorem qt_ok1541_0 : qt_q1541_0.all (qm_chk qt_cl qt_qs qt_sx qt_me 1541) = true := by decide +kernel
set_option maxRecDepth 100000 in
theorem qt_ok1542_0 : qt_q1542_0.all (qm_chk qt_cl qt_qs qt_sx qt_me 1542) = true := by decide +kernel
set_option maxRecDepth 100000 in
theorem qt_ok1543_0 : qt_q1543_0.all (qm_chk qt_cl qt_qs qt_sx qt_me 1543) = true := by decide +kernel
set_option maxRecDepth 100000 in
theorem qt_ok1544_0 : qt_q1544_0.all (qm_chk qt_cl qt_qs qt_sx qt_me 1544) = true := by decide +kernel
set_option maxRecDepth 100000 in
theorem qt_ok1544_1 : qt_q1544_1.all (qm_chk qt_cl qt_qs qt_sx qt_me 1544) = true := by decide +kernel
set_option maxRecDepth 100000 in
theorem qt_ok1545_0 : qt_q1545_0.all (qm_chk qt_cl qt_qs qt_sx qt_me 1545) = true := by decide +kernel
set_option maxRecDepth 100000 in
theorem qt_ok1546_0 : qt_q1546_0.all (qm_chk qt_cl qt_qs qt_sx qt_me 1546) = true := by decide +kernel
set_option maxRecDepth 100000 in
theorem qt_ok1547_0 : qt_q1547_0.all (qm_chk qt_cl qt_qs qt_sx qt_me 1547) = true := by decide +kernel
set_option maxRecDepth 100000 in
theorem qt_ok1548_0 : qt_q1548_0.all (qm_chk qt_cl qt_qs qt_sx qt_me 1548) = true := by decide +kernel
set_option maxRecDepth 100000 in
theorem qt_ok1549_0 : qt_q1549_0.all (qm_chk qt_cl qt_qs qt_sx qt_me 1549) = true := by decide +kernel
set_option maxRecDepth 100000 in
theorem qt_ok1550_0 : qt_q1550_0.all (qm_chk qt_cl qt_qs qt_sx qt_me 1550) = true := by decide +kernel
set_option maxRecDepth 100000 in
theorem qt_ok1551_0 : qt_q1551_0.all (qm_chk qt_cl qt_qs qt_sx qt_me 1551) = true := by decide +kernel
set_option maxRecDepth 100000 in
theorem qt_ok1552_0 : qt_q1552_0.all (qm_chk qt_cl qt_qs qt_sx qt_me 1552) = true := by decide +kernel
set_option maxRecDepth 100000 in
theorem qt_ok1553_0 : qt_q1553_0.all (qm_chk qt_cl qt_qs qt_sx qt_me 1553) = true := by decide +kernel
set_option maxRecDepth 100000 in
theorem qt_ok1554_0 : qt_q1554_0.all (qm_chk qt_cl qt_qs qt_sx qt_me 1554) = true := by decide +kernel
set_option maxRecDepth 100000 in
theorem qt_ok1555_0 : qt_q1555_0.all (qm_chk qt_cl qt_qs qt_sx qt_me 1555) = true := by decide +kernel
set_option maxRecDepth 100000 in
theorem qt_ok1556_0 : qt_q1556_0.all (qm_chk qt_cl qt_qs qt_sx qt_me 1556) = true := by decide +kernel
set_option maxRecDepth 100000 in
theorem qt_ok1203_0 : qt_q1203_0.all (qm_chk qt_cl qt_qs qt_sx qt_me 1203) = true := by decide +kernel
set_option maxRecDepth 100000 in
theorem qt_ok4_0 : qt_q4_0.all (qm_chk qt_cl qt_qs qt_sx qt_me 4) = true := by decide +kernel
set_option maxRecDepth 100000 in
theorem qt_ok4_1 : qt_q4_1.all (qm_chk qt_cl qt_qs qt_sx qt_me 4) = true := by decide +kernel
set_option maxRecDepth 100000 in
theorem qt_ok5_0 : qt_q5_0.all (qm_chk qt_cl qt_qs qt_sx qt_me 5) = true := by decide +kernel
set_option maxRecDepth 100000 in
theorem qt_ok5_1 : qt_q5_1.all (qm_chk qt_cl qt_qs qt_sx qt_me 5) = true := by decide +kernel
set_option maxRecDepth 100000 in
theorem qt_ok7_0 : qt_q7_0.all (qm_chk qt_cl qt_qs qt_sx qt_me 7) = true := by decide +kernel
set_option maxRecDepth 100000 in
theorem qt_ok8_0 : qt_q8_0.all (qm_chk qt_cl qt_qs qt_sx qt_me 8) = true := by decide +kernel
set_option maxRecDepth 100000 in
theorem qt_ok8_1 : qt_q8_1.all (qm_chk qt_cl qt_qs qt_sx qt_me 8) = true := by decide +kernel
set_option maxRecDepth 100000 in
theorem qt_ok8_2 : qt_q8_2.all (qm_chk qt_cl qt_qs qt_sx qt_me 8) = true := by decide +kernel
set_option maxRecDepth 100000 in
theorem qt_ok8_3 : qt_q8_3.all (qm_chk qt_cl qt_qs qt_sx qt_me 8) = true := by decide +kernel
set_option maxRecDepth 100000 in
theorem qt_ok8_4 : qt_q8_4.all (qm_chk qt_cl qt_qs qt_sx qt_me 8) = true := by decide +kernel
set_option maxRecDepth 100000 in
theorem qt_ok8_5 : qt_q8_5.all (qm_chk qt_cl qt_qs qt_sx qt_me 8) = true := by decide +kernel
set_option maxRecDepth 100000 in
theorem qt_ok9_0 : qt_q9_0.all (qm_chk qt_cl qt_qs qt_sx qt_me 9) = true := by decide +kernel
set_option maxRecDepth 100000 in
theorem qt_ok9_1 : qt_q9_1.all (qm_chk qt_cl qt_qs qt_sx qt_me 9) = true := by decide +kernel
set_option maxRecDepth 100000 in
theorem qt_ok1204_0 : qt_q1204_0.all (qm_chk qt_cl qt_qs qt_sx qt_me 1204) = true := by decide +kernel
set_option maxRecDepth 100000 in
theorem qt_ok1557_0 : qt_q1557_0.all (qm_chk qt_cl qt_qs qt_sx qt_me 1557) = true := by decide +kernel
set_option maxRecDepth 100000 in
theorem qt_ok1558_0 : qt_q1558_0.all (qm_chk qt_cl qt_qs qt_sx qt_me 1558) = true := by decide +kernel
set_option maxRecDepth 100000 in
theorem qt_ok1559_0 : qt_q1559_0.all (qm_chk qt_cl qt_qs qt_sx qt_me 1559) = true := by decide +kernel
set_option maxRecDepth 100000 in
theorem qt_ok1560_0 : qt_q1560_0.all (qm_chk qt_cl qt_qs qt_sx qt_me 1560) = true := by decide +kernel
set_option maxRecDepth 100000 in
theorem qt_ok1563_0 : qt_q1563_0.all (qm_chk qt_cl qt_qs qt_sx qt_me 1563) = true := by decide +kernel
set_option maxRecDepth 100000 in
theorem qt_ok1564_0 : qt_q1564_0.all (qm_chk qt_cl qt_qs qt_sx qt_me 1564) = true := by decide +kernel
set_option maxRecDepth 100000 in
theorem qt_ok1565_0 : qt_q1565_0.all (qm_chk qt_cl qt_qs qt_sx qt_me 1565) = true := by decide +kernel
set_option maxRecDepth 100000 in
theorem qt_ok1566_0 : qt_q1566_0.all (qm_chk qt_cl qt_qs qt_sx qt_me 1566) = true := by decide +kernel
set_option maxRecDepth 100000 in
theorem qt_ok1567_0 : qt_q1567_0.all (qm_chk qt_cl qt_qs qt_sx qt_me 1567) = true := by decide +kernel
set_option maxRecDepth 100000 in
theorem qt_ok1569_0 : qt_q1569_0.all (qm_chk qt_cl qt_qs qt_sx qt_me 1569) = true := by decide +kernel
set_option maxRecDepth 100000 in
theorem qt_ok1570_0 : qt_q1570_0.all (qm_chk qt_cl qt_qs qt_sx qt_me 1570) = true := by decide +kernel
set_option maxRecDepth 100000 in
theorem qt_ok1571_0 : qt_q1571_0.all (qm_chk qt_cl qt_qs qt_sx qt_me 1571) = true := by decide +kernel
set_option maxRecDepth 100000 in
theorem qt_ok1572_0 : qt_q1572_0.all (qm_chk qt_cl qt_qs qt_sx qt_me 1572) = true := by decide +kernel
set_option maxRecDepth 100000 in
theorem qt_ok1573_0 : qt_q1573_0.all (qm_chk qt_cl qt_qs qt_sx qt_me 1573) = true := by decide +kernel
set_option maxRecDepth 100000 in
theorem qt_ok1574_0 : qt_q1574_0.all (qm_chk qt_cl qt_qs qt_sx qt_me 1574) = true := by decide +kernel
set_option maxRecDepth 100000 in
theorem qt_ok6_0 : qt_q6_0.all (qm_chk qt_cl qt_qs qt_sx qt_me 6) = true := by decide +kernel
set_option maxRecDepth 100000 in
theorem qt_ok6_1 : qt_q6_1.all (qm_chk qt_cl qt_qs qt_sx qt_me 6) = true := by decide +kernel
set_option maxRecDepth 100000 in
theorem qt_ok6_2 : qt_q6_2.all (qm_chk qt_cl qt_qs qt_sx qt_me 6) = true := by decide +kernel
set_option maxRecDepth 100000 in
theorem qt_ok6_3 : qt_q6_3.all (qm_chk qt_cl qt_qs qt_sx qt_me 6) = true := by decide +kernel
