/-! ===== the law's tables say what the bytes and the words say ===== -/
set_option maxRecDepth 100000 in
theorem qt_ok1531_0 : qt_q1531_0.all (qm_chk qt_cl qt_qs qt_sx qt_me 1531) = true := by decide +kernel
set_option maxRecDepth 100000 in
theorem qt_ok1534_0 : qt_q1534_0.all (qm_chk qt_cl qt_qs qt_sx qt_me 1534) = true := by decide +kernel
set_option maxRecDepth 100000 in
theorem qt_ok1535_0 : qt_q1535_0.all (qm_chk qt_cl qt_qs qt_sx qt_me 1535) = true := by decide +kernel
set_option maxRecDepth 100000 in
theorem qt_ok1537_0 : qt_q1537_0.all (qm_chk qt_cl qt_qs qt_sx qt_me 1537) = true := by decide +kernel
set_option maxRecDepth 100000 in
theorem qt_ok1540_0 : qt_q1540_0.all (qm_chk qt_cl qt_qs qt_sx qt_me 1540) = true := by decide +kernel
set_option maxRecDepth 100000 in
theorem qt_ok1541_0 : qt_q1541_0.all (qm_chk qt_cl qt_qs qt_sx qt_me 1541) = true := by decide +kernel
set_option maxRecDepth 100000 in
theorem qt_ok1542_0 : qt_q1542_0.all (qm_chk qt_cl qt_qs qt_sx qt_me 1542) = true := by decide +kernel
set_option maxRecDepth 100000 in
theorem qt_ok1543_0 : qt_q1543_0.all (qm_chk qt_cl qt_qs qt_sx qt_me 1543) = true := by decide +kernel
set_option maxRecDepth 100000 in
theorem qt_ok1544_0 : qt_q1544_0.all (qm_chk qt_cl qt_qs qt_sx qt_me 1544) = true := by decide +kernel
set_option maxRecDepth 100000 in
theorem qt_ok1544_1 : qt_q1544_1.all (qm_chk qt_cl qt_qs qt_sx qt_me 1544) = true := by decide +kernel
set_option maxRecDepth 100000 in
theorem qt_ok1545_0 : qt_q1545_0.all (qm_chk qt_cl qt_qs qt_sx qt_me 1545) = true := by decide +kernel
set_option maxRecDepth 100000 in
theorem qt_ok1546_0 : qt_q1546_0.all (qm_chk qt_cl qt_qs qt_sx qt_me 1546) = true := by decide +kernel
set_option maxRecDepth 100000 in
theorem qt_ok1547_0 : qt_q1547_0.all (qm_chk qt_cl qt_qs qt_sx qt_me 1547) = true := by decide +kernel
set_option maxRecDepth 100000 in
theorem qt_ok1548_0 : qt_q1548_0.all (qm_chk qt_cl qt_qs qt_sx qt_me 1548) = true := by decide +kernel
set_option maxRecDepth 100000 in
theorem qt_ok1549_0 : qt_q1549_0.all (qm_chk qt_cl qt_qs qt_sx qt_me 1549) = true := by decide +kernel
set_option maxRecDepth 100000 in
theorem qt_ok1550_0 : qt_q1550_0.all (qm_chk qt_cl qt_qs qt_sx qt_me 1550) = true := by decide +kernel
set_option maxRecDepth 100000 in
theorem qt_ok1551_0 : qt_q1551_0.all (qm_chk qt_cl qt_qs qt_sx qt_me 1551) = true := by decide +kernel
set_option maxRecDepth 100000 in
theorem qt_ok1552_0 : qt_q1552_0.all (qm_chk qt_cl qt_qs qt_sx qt_me 1552) = true := by decide +kernel
set_option maxRecDepth 100000 in
theorem qt_ok1553_0 : qt_q1553_0.all (qm_chk qt_cl qt_qs qt_sx qt_me 1553) = true := by decide +kernel
set_option maxRecDepth 100000 in
theorem qt_ok1554_0 : qt_q1554_0.all (qm_chk qt_cl qt_qs qt_sx qt_me 1554) = true := by decide +kernel
set_option maxRecDepth 100000 in
theorem qt_ok1555_0 : qt_q1555_0.all (qm_chk qt_cl qt_qs qt_sx qt_me 1555) = true := by decide +kernel
set_option maxRecDepth 100000 in
theorem qt_ok1556_0 : qt_q1556_0.all (qm_chk qt_cl qt_qs qt_sx qt_me 1556) = true := by decide +kernel
set_option maxRecDepth 100000 in
theorem qt_ok1203_0 : qt_q1203_0.all (qm_chk qt_cl qt_qs qt_sx qt_me 1203) = true := by decide +kernel
