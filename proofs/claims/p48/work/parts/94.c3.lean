/-! ===== the class' tables say what the bytes and the words say ===== -/
set_option maxRecDepth 100000 in
theorem pt_ok138_0 : pt_q138_0.all (pm_chk qt_cl pt_me 138) = true := by decide +kernel
set_option maxRecDepth 100000 in
theorem pt_ok135_0 : pt_q135_0.all (pm_chk qt_cl pt_me 135) = true := by decide +kernel
set_option maxRecDepth 100000 in
theorem pt_ok402_0 : pt_q402_0.all (pm_chk qt_cl pt_me 402) = true := by decide +kernel
set_option maxRecDepth 100000 in
theorem pt_ok403_0 : pt_q403_0.all (pm_chk qt_cl pt_me 403) = true := by decide +kernel
set_option maxRecDepth 100000 in
theorem pt_ok404_0 : pt_q404_0.all (pm_chk qt_cl pt_me 404) = true := by decide +kernel
set_option maxRecDepth 100000 in
theorem pt_ok405_0 : pt_q405_0.all (pm_chk qt_cl pt_me 405) = true := by decide +kernel
set_option maxRecDepth 100000 in
theorem pt_ok406_0 : pt_q406_0.all (pm_chk qt_cl pt_me 406) = true := by decide +kernel
set_option maxRecDepth 100000 in
theorem pt_ok407_0 : pt_q407_0.all (pm_chk qt_cl pt_me 407) = true := by decide +kernel
set_option maxRecDepth 100000 in
theorem pt_ok408_0 : pt_q408_0.all (pm_chk qt_cl pt_me 408) = true := by decide +kernel
set_option maxRecDepth 100000 in
theorem pt_ok409_0 : pt_q409_0.all (pm_chk qt_cl pt_me 409) = true := by decide +kernel
set_option maxRecDepth 100000 in
theorem pt_ok411_0 : pt_q411_0.all (pm_chk qt_cl pt_me 411) = true := by decide +kernel
set_option maxRecDepth 100000 in
theorem pt_ok410_0 : pt_q410_0.all (pm_chk qt_cl pt_me 410) = true := by decide +kernel
set_option maxRecDepth 100000 in
theorem pt_ok106_0 : pt_q106_0.all (pm_chk qt_cl pt_me 106) = true := by decide +kernel
set_option maxRecDepth 100000 in
theorem pt_ok205_0 : pt_q205_0.all (pm_chk qt_cl pt_me 205) = true := by decide +kernel
set_option maxRecDepth 100000 in
theorem pt_ok131_0 : pt_q131_0.all (pm_chk qt_cl pt_me 131) = true := by decide +kernel
set_option maxRecDepth 100000 in
theorem pt_ok327_0 : pt_q327_0.all (pm_chk qt_cl pt_me 327) = true := by decide +kernel
set_option maxRecDepth 100000 in
theorem pt_ok122_0 : pt_q122_0.all (pm_chk qt_cl pt_me 122) = true := by decide +kernel
set_option maxRecDepth 100000 in
theorem pt_ok314_0 : pt_q314_0.all (pm_chk qt_cl pt_me 314) = true := by decide +kernel
set_option maxRecDepth 100000 in
theorem pt_ok109_0 : pt_q109_0.all (pm_chk qt_cl pt_me 109) = true := by decide +kernel
set_option maxRecDepth 100000 in
theorem pt_ok110_0 : pt_q110_0.all (pm_chk qt_cl pt_me 110) = true := by decide +kernel
set_option maxRecDepth 100000 in
theorem pt_ok150_0 : pt_q150_0.all (pm_chk qt_cl pt_me 150) = true := by decide +kernel
set_option maxRecDepth 100000 in
theorem pt_ok111_0 : pt_q111_0.all (pm_chk qt_cl pt_me 111) = true := by decide +kernel
set_option maxRecDepth 100000 in
theorem pt_ok114_0 : pt_q114_0.all (pm_chk qt_cl pt_me 114) = true := by decide +kernel
set_option maxRecDepth 100000 in
theorem pt_ok605_0 : pt_q605_0.all (pm_chk qt_cl pt_me 605) = true := by decide +kernel
set_option maxRecDepth 100000 in
theorem pt_ok605_1 : pt_q605_1.all (pm_chk qt_cl pt_me 605) = true := by decide +kernel
set_option maxRecDepth 100000 in
theorem pt_ok112_0 : pt_q112_0.all (pm_chk qt_cl pt_me 112) = true := by decide +kernel
set_option maxRecDepth 100000 in
theorem pt_ok146_0 : pt_q146_0.all (pm_chk qt_cl pt_me 146) = true := by decide +kernel
set_option maxRecDepth 100000 in
theorem pt_ok147_0 : pt_q147_0.all (pm_chk qt_cl pt_me 147) = true := by decide +kernel
set_option maxRecDepth 100000 in
theorem pt_ok613_0 : pt_q613_0.all (pm_chk qt_cl pt_me 613) = true := by decide +kernel
set_option maxRecDepth 100000 in
theorem pt_ok523_0 : pt_q523_0.all (pm_chk qt_cl pt_me 523) = true := by decide +kernel
set_option maxRecDepth 100000 in
theorem pt_ok148_0 : pt_q148_0.all (pm_chk qt_cl pt_me 148) = true := by decide +kernel
set_option maxRecDepth 100000 in
theorem pt_ok908_0 : pt_q908_0.all (pm_chk qt_cl pt_me 908) = true := by decide +kernel
set_option maxRecDepth 100000 in
theorem pt_ok124_0 : pt_q124_0.all (pm_chk qt_cl pt_me 124) = true := by decide +kernel
set_option maxRecDepth 100000 in
theorem pt_ok116_0 : pt_q116_0.all (pm_chk qt_cl pt_me 116) = true := by decide +kernel
set_option maxRecDepth 100000 in
theorem pt_ok132_0 : pt_q132_0.all (pm_chk qt_cl pt_me 132) = true := by decide +kernel
set_option maxRecDepth 100000 in
theorem pt_ok328_0 : pt_q328_0.all (pm_chk qt_cl pt_me 328) = true := by decide +kernel
set_option maxRecDepth 100000 in
theorem pt_ok134_0 : pt_q134_0.all (pm_chk qt_cl pt_me 134) = true := by decide +kernel
set_option maxRecDepth 100000 in
theorem pt_ok319_0 : pt_q319_0.all (pm_chk qt_cl pt_me 319) = true := by decide +kernel
set_option maxRecDepth 100000 in
theorem pt_ok319_1 : pt_q319_1.all (pm_chk qt_cl pt_me 319) = true := by decide +kernel
set_option maxRecDepth 100000 in
theorem pt_ok136_0 : pt_q136_0.all (pm_chk qt_cl pt_me 136) = true := by decide +kernel
set_option maxRecDepth 100000 in
theorem pt_ok412_0 : pt_q412_0.all (pm_chk qt_cl pt_me 412) = true := by decide +kernel
set_option maxRecDepth 100000 in
theorem pt_ok413_0 : pt_q413_0.all (pm_chk qt_cl pt_me 413) = true := by decide +kernel
