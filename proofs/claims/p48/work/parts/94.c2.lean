/-! ===== the class' tables say what the bytes and the words say ===== -/
set_option maxRecDepth 100000 in
theorem pt_ok1510_0 : pt_q1510_0.all (pm_chk qt_cl pt_me 1510) = true := by decide +kernel
set_option maxRecDepth 100000 in
theorem pt_ok525_0 : pt_q525_0.all (pm_chk qt_cl pt_me 525) = true := by decide +kernel
set_option maxRecDepth 100000 in
theorem pt_ok513_0 : pt_q513_0.all (pm_chk qt_cl pt_me 513) = true := by decide +kernel
set_option maxRecDepth 100000 in
theorem pt_ok313_0 : pt_q313_0.all (pm_chk qt_cl pt_me 313) = true := by decide +kernel
set_option maxRecDepth 100000 in
theorem pt_ok312_0 : pt_q312_0.all (pm_chk qt_cl pt_me 312) = true := by decide +kernel
set_option maxRecDepth 100000 in
theorem pt_ok311_0 : pt_q311_0.all (pm_chk qt_cl pt_me 311) = true := by decide +kernel
set_option maxRecDepth 100000 in
theorem pt_ok529_0 : pt_q529_0.all (pm_chk qt_cl pt_me 529) = true := by decide +kernel
set_option maxRecDepth 100000 in
theorem pt_ok527_0 : pt_q527_0.all (pm_chk qt_cl pt_me 527) = true := by decide +kernel
set_option maxRecDepth 100000 in
theorem pt_ok1511_0 : pt_q1511_0.all (pm_chk qt_cl pt_me 1511) = true := by decide +kernel
set_option maxRecDepth 100000 in
theorem pt_ok528_0 : pt_q528_0.all (pm_chk qt_cl pt_me 528) = true := by decide +kernel
set_option maxRecDepth 100000 in
theorem pt_ok1512_0 : pt_q1512_0.all (pm_chk qt_cl pt_me 1512) = true := by decide +kernel
set_option maxRecDepth 100000 in
theorem pt_ok316_0 : pt_q316_0.all (pm_chk qt_cl pt_me 316) = true := by decide +kernel
set_option maxRecDepth 100000 in
theorem pt_ok317_0 : pt_q317_0.all (pm_chk qt_cl pt_me 317) = true := by decide +kernel
set_option maxRecDepth 100000 in
theorem pt_ok318_0 : pt_q318_0.all (pm_chk qt_cl pt_me 318) = true := by decide +kernel
set_option maxRecDepth 100000 in
theorem pt_ok308_0 : pt_q308_0.all (pm_chk qt_cl pt_me 308) = true := by decide +kernel
set_option maxRecDepth 100000 in
theorem pt_ok137_0 : pt_q137_0.all (pm_chk qt_cl pt_me 137) = true := by decide +kernel
set_option maxRecDepth 100000 in
theorem pt_ok149_0 : pt_q149_0.all (pm_chk qt_cl pt_me 149) = true := by decide +kernel
set_option maxRecDepth 100000 in
theorem pt_ok307_0 : pt_q307_0.all (pm_chk qt_cl pt_me 307) = true := by decide +kernel
set_option maxRecDepth 100000 in
theorem pt_ok603_0 : pt_q603_0.all (pm_chk qt_cl pt_me 603) = true := by decide +kernel
set_option maxRecDepth 100000 in
theorem pt_ok519_0 : pt_q519_0.all (pm_chk qt_cl pt_me 519) = true := by decide +kernel
set_option maxRecDepth 100000 in
theorem pt_ok611_0 : pt_q611_0.all (pm_chk qt_cl pt_me 611) = true := by decide +kernel
set_option maxRecDepth 100000 in
theorem pt_ok614_0 : pt_q614_0.all (pm_chk qt_cl pt_me 614) = true := by decide +kernel
set_option maxRecDepth 100000 in
theorem pt_ok615_0 : pt_q615_0.all (pm_chk qt_cl pt_me 615) = true := by decide +kernel
set_option maxRecDepth 100000 in
theorem pt_ok904_0 : pt_q904_0.all (pm_chk qt_cl pt_me 904) = true := by decide +kernel
set_option maxRecDepth 100000 in
theorem pt_ok208_0 : pt_q208_0.all (pm_chk qt_cl pt_me 208) = true := by decide +kernel
set_option maxRecDepth 100000 in
theorem pt_ok214_0 : pt_q214_0.all (pm_chk qt_cl pt_me 214) = true := by decide +kernel
set_option maxRecDepth 100000 in
theorem pt_ok215_0 : pt_q215_0.all (pm_chk qt_cl pt_me 215) = true := by decide +kernel
set_option maxRecDepth 100000 in
theorem pt_ok206_0 : pt_q206_0.all (pm_chk qt_cl pt_me 206) = true := by decide +kernel
set_option maxRecDepth 100000 in
theorem pt_ok905_0 : pt_q905_0.all (pm_chk qt_cl pt_me 905) = true := by decide +kernel
set_option maxRecDepth 100000 in
theorem pt_ok139_0 : pt_q139_0.all (pm_chk qt_cl pt_me 139) = true := by decide +kernel
set_option maxRecDepth 100000 in
theorem pt_ok203_0 : pt_q203_0.all (pm_chk qt_cl pt_me 203) = true := by decide +kernel
set_option maxRecDepth 100000 in
theorem pt_ok504_0 : pt_q504_0.all (pm_chk qt_cl pt_me 504) = true := by decide +kernel
set_option maxRecDepth 100000 in
theorem pt_ok212_0 : pt_q212_0.all (pm_chk qt_cl pt_me 212) = true := by decide +kernel
set_option maxRecDepth 100000 in
theorem pt_ok212_1 : pt_q212_1.all (pm_chk qt_cl pt_me 212) = true := by decide +kernel
set_option maxRecDepth 100000 in
theorem pt_ok213_0 : pt_q213_0.all (pm_chk qt_cl pt_me 213) = true := by decide +kernel
set_option maxRecDepth 100000 in
theorem pt_ok141_0 : pt_q141_0.all (pm_chk qt_cl pt_me 141) = true := by decide +kernel
set_option maxRecDepth 100000 in
theorem pt_ok210_0 : pt_q210_0.all (pm_chk qt_cl pt_me 210) = true := by decide +kernel
set_option maxRecDepth 100000 in
theorem pt_ok211_0 : pt_q211_0.all (pm_chk qt_cl pt_me 211) = true := by decide +kernel
set_option maxRecDepth 100000 in
theorem pt_ok207_0 : pt_q207_0.all (pm_chk qt_cl pt_me 207) = true := by decide +kernel
set_option maxRecDepth 100000 in
theorem pt_ok510_0 : pt_q510_0.all (pm_chk qt_cl pt_me 510) = true := by decide +kernel
set_option maxRecDepth 100000 in
theorem pt_ok142_0 : pt_q142_0.all (pm_chk qt_cl pt_me 142) = true := by decide +kernel
set_option maxRecDepth 100000 in
theorem pt_ok204_0 : pt_q204_0.all (pm_chk qt_cl pt_me 204) = true := by decide +kernel
set_option maxRecDepth 100000 in
theorem pt_ok505_0 : pt_q505_0.all (pm_chk qt_cl pt_me 505) = true := by decide +kernel
set_option maxRecDepth 100000 in
theorem pt_ok209_0 : pt_q209_0.all (pm_chk qt_cl pt_me 209) = true := by decide +kernel
set_option maxRecDepth 100000 in
theorem pt_ok522_0 : pt_q522_0.all (pm_chk qt_cl pt_me 522) = true := by decide +kernel
set_option maxRecDepth 100000 in
theorem pt_ok143_0 : pt_q143_0.all (pm_chk qt_cl pt_me 143) = true := by decide +kernel
set_option maxRecDepth 100000 in
theorem pt_ok514_0 : pt_q514_0.all (pm_chk qt_cl pt_me 514) = true := by decide +kernel
set_option maxRecDepth 100000 in
theorem pt_ok145_0 : pt_q145_0.all (pm_chk qt_cl pt_me 145) = true := by decide +kernel
set_option maxRecDepth 100000 in
theorem pt_ok216_0 : pt_q216_0.all (pm_chk qt_cl pt_me 216) = true := by decide +kernel
set_option maxRecDepth 100000 in
theorem pt_ok102_0 : pt_q102_0.all (pm_chk qt_cl pt_me 102) = true := by decide +kernel
set_option maxRecDepth 100000 in
theorem pt_ok1004_0 : pt_q1004_0.all (pm_chk qt_cl pt_me 1004) = true := by decide +kernel
set_option maxRecDepth 100000 in
theorem pt_ok103_0 : pt_q103_0.all (pm_chk qt_cl pt_me 103) = true := by decide +kernel
