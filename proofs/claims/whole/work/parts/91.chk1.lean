/-! ===== the tables say what the bytes and the words say ===== -/
set_option maxRecDepth 100000 in
theorem pt_ok904_0 : pt_q904_0.all (pm_chk pt_cl pt_me 904) = true := by decide +kernel
set_option maxRecDepth 100000 in
theorem pt_ok112_0 : pt_q112_0.all (pm_chk pt_cl pt_me 112) = true := by decide +kernel
set_option maxRecDepth 100000 in
theorem pt_ok113_0 : pt_q113_0.all (pm_chk pt_cl pt_me 113) = true := by decide +kernel
set_option maxRecDepth 100000 in
theorem pt_ok612_0 : pt_q612_0.all (pm_chk pt_cl pt_me 612) = true := by decide +kernel
set_option maxRecDepth 100000 in
theorem pt_ok114_0 : pt_q114_0.all (pm_chk pt_cl pt_me 114) = true := by decide +kernel
set_option maxRecDepth 100000 in
theorem pt_ok605_0 : pt_q605_0.all (pm_chk pt_cl pt_me 605) = true := by decide +kernel
set_option maxRecDepth 100000 in
theorem pt_ok605_1 : pt_q605_1.all (pm_chk pt_cl pt_me 605) = true := by decide +kernel
set_option maxRecDepth 100000 in
theorem pt_ok115_0 : pt_q115_0.all (pm_chk pt_cl pt_me 115) = true := by decide +kernel
set_option maxRecDepth 100000 in
theorem pt_ok116_0 : pt_q116_0.all (pm_chk pt_cl pt_me 116) = true := by decide +kernel
set_option maxRecDepth 100000 in
theorem pt_ok308_0 : pt_q308_0.all (pm_chk pt_cl pt_me 308) = true := by decide +kernel
set_option maxRecDepth 100000 in
theorem pt_ok117_0 : pt_q117_0.all (pm_chk pt_cl pt_me 117) = true := by decide +kernel
set_option maxRecDepth 100000 in
theorem pt_ok118_0 : pt_q118_0.all (pm_chk pt_cl pt_me 118) = true := by decide +kernel
set_option maxRecDepth 100000 in
theorem pt_ok119_0 : pt_q119_0.all (pm_chk pt_cl pt_me 119) = true := by decide +kernel
set_option maxRecDepth 100000 in
theorem pt_ok526_0 : pt_q526_0.all (pm_chk pt_cl pt_me 526) = true := by decide +kernel
set_option maxRecDepth 100000 in
theorem pt_ok120_0 : pt_q120_0.all (pm_chk pt_cl pt_me 120) = true := by decide +kernel
set_option maxRecDepth 100000 in
theorem pt_ok908_0 : pt_q908_0.all (pm_chk pt_cl pt_me 908) = true := by decide +kernel
set_option maxRecDepth 100000 in
theorem pt_ok802_0 : pt_q802_0.all (pm_chk pt_cl pt_me 802) = true := by decide +kernel
set_option maxRecDepth 100000 in
theorem pt_ok802_1 : pt_q802_1.all (pm_chk pt_cl pt_me 802) = true := by decide +kernel
set_option maxRecDepth 100000 in
theorem pt_ok803_0 : pt_q803_0.all (pm_chk pt_cl pt_me 803) = true := by decide +kernel
set_option maxRecDepth 100000 in
theorem pt_ok804_0 : pt_q804_0.all (pm_chk pt_cl pt_me 804) = true := by decide +kernel
set_option maxRecDepth 100000 in
theorem pt_ok1511_0 : pt_q1511_0.all (pm_chk pt_cl pt_me 1511) = true := by decide +kernel
set_option maxRecDepth 100000 in
theorem pt_ok1512_0 : pt_q1512_0.all (pm_chk pt_cl pt_me 1512) = true := by decide +kernel
set_option maxRecDepth 100000 in
theorem pt_ok121_0 : pt_q121_0.all (pm_chk pt_cl pt_me 121) = true := by decide +kernel
set_option maxRecDepth 100000 in
theorem pt_ok304_0 : pt_q304_0.all (pm_chk pt_cl pt_me 304) = true := by decide +kernel
set_option maxRecDepth 100000 in
theorem pt_ok310_0 : pt_q310_0.all (pm_chk pt_cl pt_me 310) = true := by decide +kernel
set_option maxRecDepth 100000 in
theorem pt_ok309_0 : pt_q309_0.all (pm_chk pt_cl pt_me 309) = true := by decide +kernel
set_option maxRecDepth 100000 in
theorem pt_ok313_0 : pt_q313_0.all (pm_chk pt_cl pt_me 313) = true := by decide +kernel
set_option maxRecDepth 100000 in
theorem pt_ok312_0 : pt_q312_0.all (pm_chk pt_cl pt_me 312) = true := by decide +kernel
set_option maxRecDepth 100000 in
theorem pt_ok311_0 : pt_q311_0.all (pm_chk pt_cl pt_me 311) = true := by decide +kernel
set_option maxRecDepth 100000 in
theorem pt_ok529_0 : pt_q529_0.all (pm_chk pt_cl pt_me 529) = true := by decide +kernel
set_option maxRecDepth 100000 in
theorem pt_ok527_0 : pt_q527_0.all (pm_chk pt_cl pt_me 527) = true := by decide +kernel
set_option maxRecDepth 100000 in
theorem pt_ok528_0 : pt_q528_0.all (pm_chk pt_cl pt_me 528) = true := by decide +kernel
set_option maxRecDepth 100000 in
theorem pt_ok316_0 : pt_q316_0.all (pm_chk pt_cl pt_me 316) = true := by decide +kernel
set_option maxRecDepth 100000 in
theorem pt_ok317_0 : pt_q317_0.all (pm_chk pt_cl pt_me 317) = true := by decide +kernel
set_option maxRecDepth 100000 in
theorem pt_ok318_0 : pt_q318_0.all (pm_chk pt_cl pt_me 318) = true := by decide +kernel
set_option maxRecDepth 100000 in
theorem pt_ok122_0 : pt_q122_0.all (pm_chk pt_cl pt_me 122) = true := by decide +kernel
set_option maxRecDepth 100000 in
theorem pt_ok314_0 : pt_q314_0.all (pm_chk pt_cl pt_me 314) = true := by decide +kernel
set_option maxRecDepth 100000 in
theorem pt_ok123_0 : pt_q123_0.all (pm_chk pt_cl pt_me 123) = true := by decide +kernel
set_option maxRecDepth 100000 in
theorem pt_ok315_0 : pt_q315_0.all (pm_chk pt_cl pt_me 315) = true := by decide +kernel
set_option maxRecDepth 100000 in
theorem pt_ok124_0 : pt_q124_0.all (pm_chk pt_cl pt_me 124) = true := by decide +kernel
set_option maxRecDepth 100000 in
theorem pt_ok125_0 : pt_q125_0.all (pm_chk pt_cl pt_me 125) = true := by decide +kernel
set_option maxRecDepth 100000 in
theorem pt_ok321_0 : pt_q321_0.all (pm_chk pt_cl pt_me 321) = true := by decide +kernel
set_option maxRecDepth 100000 in
theorem pt_ok126_0 : pt_q126_0.all (pm_chk pt_cl pt_me 126) = true := by decide +kernel
set_option maxRecDepth 100000 in
theorem pt_ok324_0 : pt_q324_0.all (pm_chk pt_cl pt_me 324) = true := by decide +kernel
set_option maxRecDepth 100000 in
theorem pt_ok322_0 : pt_q322_0.all (pm_chk pt_cl pt_me 322) = true := by decide +kernel
set_option maxRecDepth 100000 in
theorem pt_ok323_0 : pt_q323_0.all (pm_chk pt_cl pt_me 323) = true := by decide +kernel
set_option maxRecDepth 100000 in
theorem pt_ok325_0 : pt_q325_0.all (pm_chk pt_cl pt_me 325) = true := by decide +kernel
set_option maxRecDepth 100000 in
theorem pt_ok127_0 : pt_q127_0.all (pm_chk pt_cl pt_me 127) = true := by decide +kernel
set_option maxRecDepth 100000 in
theorem pt_ok530_0 : pt_q530_0.all (pm_chk pt_cl pt_me 530) = true := by decide +kernel
set_option maxRecDepth 100000 in
theorem pt_ok128_0 : pt_q128_0.all (pm_chk pt_cl pt_me 128) = true := by decide +kernel
set_option maxRecDepth 100000 in
theorem pt_ok129_0 : pt_q129_0.all (pm_chk pt_cl pt_me 129) = true := by decide +kernel
set_option maxRecDepth 100000 in
theorem pt_ok531_0 : pt_q531_0.all (pm_chk pt_cl pt_me 531) = true := by decide +kernel
set_option maxRecDepth 100000 in
theorem pt_ok532_0 : pt_q532_0.all (pm_chk pt_cl pt_me 532) = true := by decide +kernel
set_option maxRecDepth 100000 in
theorem pt_ok130_0 : pt_q130_0.all (pm_chk pt_cl pt_me 130) = true := by decide +kernel
set_option maxRecDepth 100000 in
theorem pt_ok326_0 : pt_q326_0.all (pm_chk pt_cl pt_me 326) = true := by decide +kernel
set_option maxRecDepth 100000 in
theorem pt_ok131_0 : pt_q131_0.all (pm_chk pt_cl pt_me 131) = true := by decide +kernel
set_option maxRecDepth 100000 in
theorem pt_ok327_0 : pt_q327_0.all (pm_chk pt_cl pt_me 327) = true := by decide +kernel
set_option maxRecDepth 100000 in
theorem pt_ok132_0 : pt_q132_0.all (pm_chk pt_cl pt_me 132) = true := by decide +kernel
set_option maxRecDepth 100000 in
theorem pt_ok328_0 : pt_q328_0.all (pm_chk pt_cl pt_me 328) = true := by decide +kernel
set_option maxRecDepth 100000 in
theorem pt_ok133_0 : pt_q133_0.all (pm_chk pt_cl pt_me 133) = true := by decide +kernel
set_option maxRecDepth 100000 in
theorem pt_ok320_0 : pt_q320_0.all (pm_chk pt_cl pt_me 320) = true := by decide +kernel
set_option maxRecDepth 100000 in
theorem pt_ok134_0 : pt_q134_0.all (pm_chk pt_cl pt_me 134) = true := by decide +kernel
set_option maxRecDepth 100000 in
theorem pt_ok319_0 : pt_q319_0.all (pm_chk pt_cl pt_me 319) = true := by decide +kernel
set_option maxRecDepth 100000 in
theorem pt_ok319_1 : pt_q319_1.all (pm_chk pt_cl pt_me 319) = true := by decide +kernel
set_option maxRecDepth 100000 in
theorem pt_ok135_0 : pt_q135_0.all (pm_chk pt_cl pt_me 135) = true := by decide +kernel
set_option maxRecDepth 100000 in
theorem pt_ok402_0 : pt_q402_0.all (pm_chk pt_cl pt_me 402) = true := by decide +kernel
set_option maxRecDepth 100000 in
theorem pt_ok403_0 : pt_q403_0.all (pm_chk pt_cl pt_me 403) = true := by decide +kernel
set_option maxRecDepth 100000 in
theorem pt_ok404_0 : pt_q404_0.all (pm_chk pt_cl pt_me 404) = true := by decide +kernel
set_option maxRecDepth 100000 in
theorem pt_ok405_0 : pt_q405_0.all (pm_chk pt_cl pt_me 405) = true := by decide +kernel
set_option maxRecDepth 100000 in
theorem pt_ok406_0 : pt_q406_0.all (pm_chk pt_cl pt_me 406) = true := by decide +kernel
set_option maxRecDepth 100000 in
theorem pt_ok407_0 : pt_q407_0.all (pm_chk pt_cl pt_me 407) = true := by decide +kernel
set_option maxRecDepth 100000 in
theorem pt_ok408_0 : pt_q408_0.all (pm_chk pt_cl pt_me 408) = true := by decide +kernel
set_option maxRecDepth 100000 in
theorem pt_ok409_0 : pt_q409_0.all (pm_chk pt_cl pt_me 409) = true := by decide +kernel
set_option maxRecDepth 100000 in
theorem pt_ok411_0 : pt_q411_0.all (pm_chk pt_cl pt_me 411) = true := by decide +kernel
set_option maxRecDepth 100000 in
theorem pt_ok410_0 : pt_q410_0.all (pm_chk pt_cl pt_me 410) = true := by decide +kernel
set_option maxRecDepth 100000 in
theorem pt_ok136_0 : pt_q136_0.all (pm_chk pt_cl pt_me 136) = true := by decide +kernel
set_option maxRecDepth 100000 in
theorem pt_ok412_0 : pt_q412_0.all (pm_chk pt_cl pt_me 412) = true := by decide +kernel
set_option maxRecDepth 100000 in
theorem pt_ok413_0 : pt_q413_0.all (pm_chk pt_cl pt_me 413) = true := by decide +kernel
set_option maxRecDepth 100000 in
theorem pt_ok137_0 : pt_q137_0.all (pm_chk pt_cl pt_me 137) = true := by decide +kernel
set_option maxRecDepth 100000 in
theorem pt_ok208_0 : pt_q208_0.all (pm_chk pt_cl pt_me 208) = true := by decide +kernel
set_option maxRecDepth 100000 in
theorem pt_ok214_0 : pt_q214_0.all (pm_chk pt_cl pt_me 214) = true := by decide +kernel
set_option maxRecDepth 100000 in
theorem pt_ok215_0 : pt_q215_0.all (pm_chk pt_cl pt_me 215) = true := by decide +kernel
set_option maxRecDepth 100000 in
theorem pt_ok138_0 : pt_q138_0.all (pm_chk pt_cl pt_me 138) = true := by decide +kernel
set_option maxRecDepth 100000 in
theorem pt_ok204_0 : pt_q204_0.all (pm_chk pt_cl pt_me 204) = true := by decide +kernel
set_option maxRecDepth 100000 in
theorem pt_ok139_0 : pt_q139_0.all (pm_chk pt_cl pt_me 139) = true := by decide +kernel
set_option maxRecDepth 100000 in
theorem pt_ok203_0 : pt_q203_0.all (pm_chk pt_cl pt_me 203) = true := by decide +kernel
set_option maxRecDepth 100000 in
theorem pt_ok212_0 : pt_q212_0.all (pm_chk pt_cl pt_me 212) = true := by decide +kernel
set_option maxRecDepth 100000 in
theorem pt_ok212_1 : pt_q212_1.all (pm_chk pt_cl pt_me 212) = true := by decide +kernel
set_option maxRecDepth 100000 in
theorem pt_ok213_0 : pt_q213_0.all (pm_chk pt_cl pt_me 213) = true := by decide +kernel
set_option maxRecDepth 100000 in
theorem pt_ok140_0 : pt_q140_0.all (pm_chk pt_cl pt_me 140) = true := by decide +kernel
set_option maxRecDepth 100000 in
theorem pt_ok207_0 : pt_q207_0.all (pm_chk pt_cl pt_me 207) = true := by decide +kernel
set_option maxRecDepth 100000 in
theorem pt_ok141_0 : pt_q141_0.all (pm_chk pt_cl pt_me 141) = true := by decide +kernel
set_option maxRecDepth 100000 in
theorem pt_ok210_0 : pt_q210_0.all (pm_chk pt_cl pt_me 210) = true := by decide +kernel
set_option maxRecDepth 100000 in
theorem pt_ok211_0 : pt_q211_0.all (pm_chk pt_cl pt_me 211) = true := by decide +kernel
set_option maxRecDepth 100000 in
theorem pt_ok142_0 : pt_q142_0.all (pm_chk pt_cl pt_me 142) = true := by decide +kernel
set_option maxRecDepth 100000 in
theorem pt_ok209_0 : pt_q209_0.all (pm_chk pt_cl pt_me 209) = true := by decide +kernel
set_option maxRecDepth 100000 in
theorem pt_ok522_0 : pt_q522_0.all (pm_chk pt_cl pt_me 522) = true := by decide +kernel
set_option maxRecDepth 100000 in
theorem pt_ok143_0 : pt_q143_0.all (pm_chk pt_cl pt_me 143) = true := by decide +kernel
set_option maxRecDepth 100000 in
theorem pt_ok514_0 : pt_q514_0.all (pm_chk pt_cl pt_me 514) = true := by decide +kernel
set_option maxRecDepth 100000 in
theorem pt_ok144_0 : pt_q144_0.all (pm_chk pt_cl pt_me 144) = true := by decide +kernel
set_option maxRecDepth 100000 in
theorem pt_ok145_0 : pt_q145_0.all (pm_chk pt_cl pt_me 145) = true := by decide +kernel
set_option maxRecDepth 100000 in
theorem pt_ok216_0 : pt_q216_0.all (pm_chk pt_cl pt_me 216) = true := by decide +kernel
set_option maxRecDepth 100000 in
theorem pt_ok146_0 : pt_q146_0.all (pm_chk pt_cl pt_me 146) = true := by decide +kernel
set_option maxRecDepth 100000 in
theorem pt_ok147_0 : pt_q147_0.all (pm_chk pt_cl pt_me 147) = true := by decide +kernel
set_option maxRecDepth 100000 in
theorem pt_ok613_0 : pt_q613_0.all (pm_chk pt_cl pt_me 613) = true := by decide +kernel
set_option maxRecDepth 100000 in
theorem pt_ok523_0 : pt_q523_0.all (pm_chk pt_cl pt_me 523) = true := by decide +kernel
set_option maxRecDepth 100000 in
theorem pt_ok148_0 : pt_q148_0.all (pm_chk pt_cl pt_me 148) = true := by decide +kernel
set_option maxRecDepth 100000 in
theorem pt_ok1201_0 : pt_q1201_0.all (pm_chk pt_cl pt_me 1201) = true := by decide +kernel
set_option maxRecDepth 100000 in
theorem pt_ok1201_1 : pt_q1201_1.all (pm_chk pt_cl pt_me 1201) = true := by decide +kernel
set_option maxRecDepth 100000 in
theorem pt_ok1201_2 : pt_q1201_2.all (pm_chk pt_cl pt_me 1201) = true := by decide +kernel
