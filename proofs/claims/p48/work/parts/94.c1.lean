/-! ===== the class' tables say what the bytes and the words say ===== -/
set_option maxRecDepth 100000 in
theorem pt_ok1005_0 : pt_q1005_0.all (pm_chk qt_cl pt_me 1005) = true := by decide +kernel
set_option maxRecDepth 100000 in
theorem pt_ok503_0 : pt_q503_0.all (pm_chk qt_cl pt_me 503) = true := by decide +kernel
set_option maxRecDepth 100000 in
theorem pt_ok503_1 : pt_q503_1.all (pm_chk qt_cl pt_me 503) = true := by decide +kernel
set_option maxRecDepth 100000 in
theorem pt_ok202_0 : pt_q202_0.all (pm_chk qt_cl pt_me 202) = true := by decide +kernel
set_option maxRecDepth 100000 in
theorem pt_ok108_0 : pt_q108_0.all (pm_chk qt_cl pt_me 108) = true := by decide +kernel
set_option maxRecDepth 100000 in
theorem pt_ok517_0 : pt_q517_0.all (pm_chk qt_cl pt_me 517) = true := by decide +kernel
set_option maxRecDepth 100000 in
theorem pt_ok507_0 : pt_q507_0.all (pm_chk qt_cl pt_me 507) = true := by decide +kernel
set_option maxRecDepth 100000 in
theorem pt_ok515_0 : pt_q515_0.all (pm_chk qt_cl pt_me 515) = true := by decide +kernel
set_option maxRecDepth 100000 in
theorem pt_ok508_0 : pt_q508_0.all (pm_chk qt_cl pt_me 508) = true := by decide +kernel
set_option maxRecDepth 100000 in
theorem pt_ok516_0 : pt_q516_0.all (pm_chk qt_cl pt_me 516) = true := by decide +kernel
set_option maxRecDepth 100000 in
theorem pt_ok121_0 : pt_q121_0.all (pm_chk qt_cl pt_me 121) = true := by decide +kernel
set_option maxRecDepth 100000 in
theorem pt_ok506_0 : pt_q506_0.all (pm_chk qt_cl pt_me 506) = true := by decide +kernel
set_option maxRecDepth 100000 in
theorem pt_ok304_0 : pt_q304_0.all (pm_chk qt_cl pt_me 304) = true := by decide +kernel
set_option maxRecDepth 100000 in
theorem pt_ok302_0 : pt_q302_0.all (pm_chk qt_cl pt_me 302) = true := by decide +kernel
set_option maxRecDepth 100000 in
theorem pt_ok302_1 : pt_q302_1.all (pm_chk qt_cl pt_me 302) = true := by decide +kernel
set_option maxRecDepth 100000 in
theorem pt_ok303_0 : pt_q303_0.all (pm_chk qt_cl pt_me 303) = true := by decide +kernel
set_option maxRecDepth 100000 in
theorem pt_ok1509_0 : pt_q1509_0.all (pm_chk qt_cl pt_me 1509) = true := by decide +kernel
set_option maxRecDepth 100000 in
theorem pt_ok511_0 : pt_q511_0.all (pm_chk qt_cl pt_me 511) = true := by decide +kernel
set_option maxRecDepth 100000 in
theorem pt_ok310_0 : pt_q310_0.all (pm_chk qt_cl pt_me 310) = true := by decide +kernel
set_option maxRecDepth 100000 in
theorem pt_ok309_0 : pt_q309_0.all (pm_chk qt_cl pt_me 309) = true := by decide +kernel
set_option maxRecDepth 100000 in
theorem pt_ok305_0 : pt_q305_0.all (pm_chk qt_cl pt_me 305) = true := by decide +kernel
set_option maxRecDepth 100000 in
theorem pt_ok305_1 : pt_q305_1.all (pm_chk qt_cl pt_me 305) = true := by decide +kernel
set_option maxRecDepth 100000 in
theorem pt_ok306_0 : pt_q306_0.all (pm_chk qt_cl pt_me 306) = true := by decide +kernel
set_option maxRecDepth 100000 in
theorem pt_ok306_1 : pt_q306_1.all (pm_chk qt_cl pt_me 306) = true := by decide +kernel
set_option maxRecDepth 100000 in
theorem pt_ok602_0 : pt_q602_0.all (pm_chk qt_cl pt_me 602) = true := by decide +kernel
set_option maxRecDepth 100000 in
theorem pt_ok518_0 : pt_q518_0.all (pm_chk qt_cl pt_me 518) = true := by decide +kernel
set_option maxRecDepth 100000 in
theorem pt_ok906_0 : pt_q906_0.all (pm_chk qt_cl pt_me 906) = true := by decide +kernel
set_option maxRecDepth 100000 in
theorem pt_ok903_0 : pt_q903_0.all (pm_chk qt_cl pt_me 903) = true := by decide +kernel
set_option maxRecDepth 100000 in
theorem pt_ok907_0 : pt_q907_0.all (pm_chk qt_cl pt_me 907) = true := by decide +kernel
set_option maxRecDepth 100000 in
theorem pt_ok607_0 : pt_q607_0.all (pm_chk qt_cl pt_me 607) = true := by decide +kernel
set_option maxRecDepth 100000 in
theorem pt_ok608_0 : pt_q608_0.all (pm_chk qt_cl pt_me 608) = true := by decide +kernel
set_option maxRecDepth 100000 in
theorem pt_ok902_0 : pt_q902_0.all (pm_chk qt_cl pt_me 902) = true := by decide +kernel
set_option maxRecDepth 100000 in
theorem pt_ok1508_0 : pt_q1508_0.all (pm_chk qt_cl pt_me 1508) = true := by decide +kernel
set_option maxRecDepth 100000 in
theorem pt_ok606_0 : pt_q606_0.all (pm_chk qt_cl pt_me 606) = true := by decide +kernel
set_option maxRecDepth 100000 in
theorem pt_ok610_0 : pt_q610_0.all (pm_chk qt_cl pt_me 610) = true := by decide +kernel
set_option maxRecDepth 100000 in
theorem pt_ok610_1 : pt_q610_1.all (pm_chk qt_cl pt_me 610) = true := by decide +kernel
set_option maxRecDepth 100000 in
theorem pt_ok512_0 : pt_q512_0.all (pm_chk qt_cl pt_me 512) = true := by decide +kernel
set_option maxRecDepth 100000 in
theorem pt_ok609_0 : pt_q609_0.all (pm_chk qt_cl pt_me 609) = true := by decide +kernel
set_option maxRecDepth 100000 in
theorem pt_ok604_0 : pt_q604_0.all (pm_chk qt_cl pt_me 604) = true := by decide +kernel
set_option maxRecDepth 100000 in
theorem pt_ok520_0 : pt_q520_0.all (pm_chk qt_cl pt_me 520) = true := by decide +kernel
set_option maxRecDepth 100000 in
theorem pt_ok509_0 : pt_q509_0.all (pm_chk qt_cl pt_me 509) = true := by decide +kernel
set_option maxRecDepth 100000 in
theorem pt_ok521_0 : pt_q521_0.all (pm_chk qt_cl pt_me 521) = true := by decide +kernel
set_option maxRecDepth 100000 in
theorem pt_ok524_0 : pt_q524_0.all (pm_chk qt_cl pt_me 524) = true := by decide +kernel
