/-! ===== the tables are right, all together ===== -/
theorem pt_c101 : pt_m101.2.2.2.2.2.2.all (pm_chk qt_cl pt_me 101) = true := by
  exact pt_ok101_0
theorem pt_c1001 : pt_m1001.2.2.2.2.2.2.all (pm_chk qt_cl pt_me 1001) = true := by
  exact pt_ok1001_0
theorem pt_c501 : pt_m501.2.2.2.2.2.2.all (pm_chk qt_cl pt_me 501) = true := by
  exact pt_ok501_0
theorem pt_c701 : pt_m701.2.2.2.2.2.2.all (pm_chk qt_cl pt_me 701) = true := by
  show (pt_q701_0 ++ pt_q701_1).all _ = true
  simp only [List.all_append, pt_ok701_0, pt_ok701_1, Bool.and_self]
theorem pt_c1501 : pt_m1501.2.2.2.2.2.2.all (pm_chk qt_cl pt_me 1501) = true := by
  exact pt_ok1501_0
theorem pt_c1502 : pt_m1502.2.2.2.2.2.2.all (pm_chk qt_cl pt_me 1502) = true := by
  exact pt_ok1502_0
theorem pt_c1503 : pt_m1503.2.2.2.2.2.2.all (pm_chk qt_cl pt_me 1503) = true := by
  exact pt_ok1503_0
theorem pt_c1504 : pt_m1504.2.2.2.2.2.2.all (pm_chk qt_cl pt_me 1504) = true := by
  exact pt_ok1504_0
theorem pt_c1505 : pt_m1505.2.2.2.2.2.2.all (pm_chk qt_cl pt_me 1505) = true := by
  exact pt_ok1505_0
theorem pt_c1506 : pt_m1506.2.2.2.2.2.2.all (pm_chk qt_cl pt_me 1506) = true := by
  exact pt_ok1506_0
theorem pt_c1507 : pt_m1507.2.2.2.2.2.2.all (pm_chk qt_cl pt_me 1507) = true := by
  exact pt_ok1507_0
theorem pt_c724 : pt_m724.2.2.2.2.2.2.all (pm_chk qt_cl pt_me 724) = true := by
  exact pt_ok724_0
theorem pt_c601 : pt_m601.2.2.2.2.2.2.all (pm_chk qt_cl pt_me 601) = true := by
  exact pt_ok601_0
theorem pt_c801 : pt_m801.2.2.2.2.2.2.all (pm_chk qt_cl pt_me 801) = true := by
  exact pt_ok801_0
theorem pt_c301 : pt_m301.2.2.2.2.2.2.all (pm_chk qt_cl pt_me 301) = true := by
  exact pt_ok301_0
theorem pt_c401 : pt_m401.2.2.2.2.2.2.all (pm_chk qt_cl pt_me 401) = true := by
  exact pt_ok401_0
theorem pt_c201 : pt_m201.2.2.2.2.2.2.all (pm_chk qt_cl pt_me 201) = true := by
  exact pt_ok201_0
theorem pt_c104 : pt_m104.2.2.2.2.2.2.all (pm_chk qt_cl pt_me 104) = true := by
  exact pt_ok104_0
theorem pt_c702 : pt_m702.2.2.2.2.2.2.all (pm_chk qt_cl pt_me 702) = true := by
  exact pt_ok702_0
theorem pt_c502 : pt_m502.2.2.2.2.2.2.all (pm_chk qt_cl pt_me 502) = true := by
  exact pt_ok502_0
theorem pt_c721 : pt_m721.2.2.2.2.2.2.all (pm_chk qt_cl pt_me 721) = true := by
  show (pt_q721_0 ++ pt_q721_1).all _ = true
  simp only [List.all_append, pt_ok721_0, pt_ok721_1, Bool.and_self]
theorem pt_c1002 : pt_m1002.2.2.2.2.2.2.all (pm_chk qt_cl pt_me 1002) = true := by
  exact pt_ok1002_0
theorem pt_c1003 : pt_m1003.2.2.2.2.2.2.all (pm_chk qt_cl pt_me 1003) = true := by
  exact pt_ok1003_0
theorem pt_c725 : pt_m725.2.2.2.2.2.2.all (pm_chk qt_cl pt_me 725) = true := by
  exact pt_ok725_0
theorem pt_c726 : pt_m726.2.2.2.2.2.2.all (pm_chk qt_cl pt_me 726) = true := by
  exact pt_ok726_0
theorem pt_c722 : pt_m722.2.2.2.2.2.2.all (pm_chk qt_cl pt_me 722) = true := by
  exact pt_ok722_0
theorem pt_c720 : pt_m720.2.2.2.2.2.2.all (pm_chk qt_cl pt_me 720) = true := by
  exact pt_ok720_0
theorem pt_c727 : pt_m727.2.2.2.2.2.2.all (pm_chk qt_cl pt_me 727) = true := by
  exact pt_ok727_0
theorem pt_c723 : pt_m723.2.2.2.2.2.2.all (pm_chk qt_cl pt_me 723) = true := by
  exact pt_ok723_0
theorem pt_c703 : pt_m703.2.2.2.2.2.2.all (pm_chk qt_cl pt_me 703) = true := by
  exact pt_ok703_0
theorem pt_c706 : pt_m706.2.2.2.2.2.2.all (pm_chk qt_cl pt_me 706) = true := by
  show (pt_q706_0 ++ pt_q706_1).all _ = true
  simp only [List.all_append, pt_ok706_0, pt_ok706_1, Bool.and_self]
theorem pt_c709 : pt_m709.2.2.2.2.2.2.all (pm_chk qt_cl pt_me 709) = true := by
  exact pt_ok709_0
theorem pt_c707 : pt_m707.2.2.2.2.2.2.all (pm_chk qt_cl pt_me 707) = true := by
  exact pt_ok707_0
theorem pt_c151 : pt_m151.2.2.2.2.2.2.all (pm_chk qt_cl pt_me 151) = true := by
  exact pt_ok151_0
theorem pt_c704 : pt_m704.2.2.2.2.2.2.all (pm_chk qt_cl pt_me 704) = true := by
  exact pt_ok704_0
theorem pt_c714 : pt_m714.2.2.2.2.2.2.all (pm_chk qt_cl pt_me 714) = true := by
  exact pt_ok714_0
theorem pt_c705 : pt_m705.2.2.2.2.2.2.all (pm_chk qt_cl pt_me 705) = true := by
  exact pt_ok705_0
theorem pt_c715 : pt_m715.2.2.2.2.2.2.all (pm_chk qt_cl pt_me 715) = true := by
  exact pt_ok715_0
theorem pt_c708 : pt_m708.2.2.2.2.2.2.all (pm_chk qt_cl pt_me 708) = true := by
  exact pt_ok708_0
theorem pt_c710 : pt_m710.2.2.2.2.2.2.all (pm_chk qt_cl pt_me 710) = true := by
  exact pt_ok710_0
theorem pt_c719 : pt_m719.2.2.2.2.2.2.all (pm_chk qt_cl pt_me 719) = true := by
  exact pt_ok719_0
theorem pt_c717 : pt_m717.2.2.2.2.2.2.all (pm_chk qt_cl pt_me 717) = true := by
  exact pt_ok717_0
theorem pt_c711 : pt_m711.2.2.2.2.2.2.all (pm_chk qt_cl pt_me 711) = true := by
  show (pt_q711_0 ++ pt_q711_1).all _ = true
  simp only [List.all_append, pt_ok711_0, pt_ok711_1, Bool.and_self]
theorem pt_c716 : pt_m716.2.2.2.2.2.2.all (pm_chk qt_cl pt_me 716) = true := by
  exact pt_ok716_0
theorem pt_c712 : pt_m712.2.2.2.2.2.2.all (pm_chk qt_cl pt_me 712) = true := by
  exact pt_ok712_0
theorem pt_c718 : pt_m718.2.2.2.2.2.2.all (pm_chk qt_cl pt_me 718) = true := by
  exact pt_ok718_0
theorem pt_c713 : pt_m713.2.2.2.2.2.2.all (pm_chk qt_cl pt_me 713) = true := by
  exact pt_ok713_0
theorem pt_c1005 : pt_m1005.2.2.2.2.2.2.all (pm_chk qt_cl pt_me 1005) = true := by
  exact pt_ok1005_0
theorem pt_c503 : pt_m503.2.2.2.2.2.2.all (pm_chk qt_cl pt_me 503) = true := by
  show (pt_q503_0 ++ pt_q503_1).all _ = true
  simp only [List.all_append, pt_ok503_0, pt_ok503_1, Bool.and_self]
theorem pt_c202 : pt_m202.2.2.2.2.2.2.all (pm_chk qt_cl pt_me 202) = true := by
  exact pt_ok202_0
theorem pt_c108 : pt_m108.2.2.2.2.2.2.all (pm_chk qt_cl pt_me 108) = true := by
  exact pt_ok108_0
theorem pt_c517 : pt_m517.2.2.2.2.2.2.all (pm_chk qt_cl pt_me 517) = true := by
  exact pt_ok517_0
theorem pt_c507 : pt_m507.2.2.2.2.2.2.all (pm_chk qt_cl pt_me 507) = true := by
  exact pt_ok507_0
theorem pt_c515 : pt_m515.2.2.2.2.2.2.all (pm_chk qt_cl pt_me 515) = true := by
  exact pt_ok515_0
theorem pt_c508 : pt_m508.2.2.2.2.2.2.all (pm_chk qt_cl pt_me 508) = true := by
  exact pt_ok508_0
theorem pt_c516 : pt_m516.2.2.2.2.2.2.all (pm_chk qt_cl pt_me 516) = true := by
  exact pt_ok516_0
theorem pt_c121 : pt_m121.2.2.2.2.2.2.all (pm_chk qt_cl pt_me 121) = true := by
  exact pt_ok121_0
theorem pt_c506 : pt_m506.2.2.2.2.2.2.all (pm_chk qt_cl pt_me 506) = true := by
  exact pt_ok506_0
theorem pt_c304 : pt_m304.2.2.2.2.2.2.all (pm_chk qt_cl pt_me 304) = true := by
  exact pt_ok304_0
theorem pt_c302 : pt_m302.2.2.2.2.2.2.all (pm_chk qt_cl pt_me 302) = true := by
  show (pt_q302_0 ++ pt_q302_1).all _ = true
  simp only [List.all_append, pt_ok302_0, pt_ok302_1, Bool.and_self]
theorem pt_c303 : pt_m303.2.2.2.2.2.2.all (pm_chk qt_cl pt_me 303) = true := by
  exact pt_ok303_0
theorem pt_c1509 : pt_m1509.2.2.2.2.2.2.all (pm_chk qt_cl pt_me 1509) = true := by
  exact pt_ok1509_0
theorem pt_c511 : pt_m511.2.2.2.2.2.2.all (pm_chk qt_cl pt_me 511) = true := by
  exact pt_ok511_0
theorem pt_c310 : pt_m310.2.2.2.2.2.2.all (pm_chk qt_cl pt_me 310) = true := by
  exact pt_ok310_0
theorem pt_c309 : pt_m309.2.2.2.2.2.2.all (pm_chk qt_cl pt_me 309) = true := by
  exact pt_ok309_0
theorem pt_c305 : pt_m305.2.2.2.2.2.2.all (pm_chk qt_cl pt_me 305) = true := by
  show (pt_q305_0 ++ pt_q305_1).all _ = true
  simp only [List.all_append, pt_ok305_0, pt_ok305_1, Bool.and_self]
theorem pt_c306 : pt_m306.2.2.2.2.2.2.all (pm_chk qt_cl pt_me 306) = true := by
  show (pt_q306_0 ++ pt_q306_1).all _ = true
  simp only [List.all_append, pt_ok306_0, pt_ok306_1, Bool.and_self]
theorem pt_c602 : pt_m602.2.2.2.2.2.2.all (pm_chk qt_cl pt_me 602) = true := by
  exact pt_ok602_0
theorem pt_c518 : pt_m518.2.2.2.2.2.2.all (pm_chk qt_cl pt_me 518) = true := by
  exact pt_ok518_0
theorem pt_c906 : pt_m906.2.2.2.2.2.2.all (pm_chk qt_cl pt_me 906) = true := by
  exact pt_ok906_0
theorem pt_c903 : pt_m903.2.2.2.2.2.2.all (pm_chk qt_cl pt_me 903) = true := by
  exact pt_ok903_0
theorem pt_c907 : pt_m907.2.2.2.2.2.2.all (pm_chk qt_cl pt_me 907) = true := by
  exact pt_ok907_0
theorem pt_c607 : pt_m607.2.2.2.2.2.2.all (pm_chk qt_cl pt_me 607) = true := by
  exact pt_ok607_0
theorem pt_c608 : pt_m608.2.2.2.2.2.2.all (pm_chk qt_cl pt_me 608) = true := by
  exact pt_ok608_0
theorem pt_c902 : pt_m902.2.2.2.2.2.2.all (pm_chk qt_cl pt_me 902) = true := by
  exact pt_ok902_0
theorem pt_c1508 : pt_m1508.2.2.2.2.2.2.all (pm_chk qt_cl pt_me 1508) = true := by
  exact pt_ok1508_0
theorem pt_c606 : pt_m606.2.2.2.2.2.2.all (pm_chk qt_cl pt_me 606) = true := by
  exact pt_ok606_0
theorem pt_c610 : pt_m610.2.2.2.2.2.2.all (pm_chk qt_cl pt_me 610) = true := by
  show (pt_q610_0 ++ pt_q610_1).all _ = true
  simp only [List.all_append, pt_ok610_0, pt_ok610_1, Bool.and_self]
theorem pt_c512 : pt_m512.2.2.2.2.2.2.all (pm_chk qt_cl pt_me 512) = true := by
  exact pt_ok512_0
theorem pt_c609 : pt_m609.2.2.2.2.2.2.all (pm_chk qt_cl pt_me 609) = true := by
  exact pt_ok609_0
theorem pt_c604 : pt_m604.2.2.2.2.2.2.all (pm_chk qt_cl pt_me 604) = true := by
  exact pt_ok604_0
theorem pt_c520 : pt_m520.2.2.2.2.2.2.all (pm_chk qt_cl pt_me 520) = true := by
  exact pt_ok520_0
theorem pt_c509 : pt_m509.2.2.2.2.2.2.all (pm_chk qt_cl pt_me 509) = true := by
  exact pt_ok509_0
theorem pt_c521 : pt_m521.2.2.2.2.2.2.all (pm_chk qt_cl pt_me 521) = true := by
  exact pt_ok521_0
theorem pt_c524 : pt_m524.2.2.2.2.2.2.all (pm_chk qt_cl pt_me 524) = true := by
  exact pt_ok524_0
theorem pt_c1510 : pt_m1510.2.2.2.2.2.2.all (pm_chk qt_cl pt_me 1510) = true := by
  exact pt_ok1510_0
theorem pt_c525 : pt_m525.2.2.2.2.2.2.all (pm_chk qt_cl pt_me 525) = true := by
  exact pt_ok525_0
theorem pt_c513 : pt_m513.2.2.2.2.2.2.all (pm_chk qt_cl pt_me 513) = true := by
  exact pt_ok513_0
theorem pt_c313 : pt_m313.2.2.2.2.2.2.all (pm_chk qt_cl pt_me 313) = true := by
  exact pt_ok313_0
theorem pt_c312 : pt_m312.2.2.2.2.2.2.all (pm_chk qt_cl pt_me 312) = true := by
  exact pt_ok312_0
theorem pt_c311 : pt_m311.2.2.2.2.2.2.all (pm_chk qt_cl pt_me 311) = true := by
  exact pt_ok311_0
theorem pt_c529 : pt_m529.2.2.2.2.2.2.all (pm_chk qt_cl pt_me 529) = true := by
  exact pt_ok529_0
theorem pt_c527 : pt_m527.2.2.2.2.2.2.all (pm_chk qt_cl pt_me 527) = true := by
  exact pt_ok527_0
theorem pt_c1511 : pt_m1511.2.2.2.2.2.2.all (pm_chk qt_cl pt_me 1511) = true := by
  exact pt_ok1511_0
theorem pt_c528 : pt_m528.2.2.2.2.2.2.all (pm_chk qt_cl pt_me 528) = true := by
  exact pt_ok528_0
theorem pt_c1512 : pt_m1512.2.2.2.2.2.2.all (pm_chk qt_cl pt_me 1512) = true := by
  exact pt_ok1512_0
theorem pt_c316 : pt_m316.2.2.2.2.2.2.all (pm_chk qt_cl pt_me 316) = true := by
  exact pt_ok316_0
theorem pt_c317 : pt_m317.2.2.2.2.2.2.all (pm_chk qt_cl pt_me 317) = true := by
  exact pt_ok317_0
theorem pt_c318 : pt_m318.2.2.2.2.2.2.all (pm_chk qt_cl pt_me 318) = true := by
  exact pt_ok318_0
theorem pt_c308 : pt_m308.2.2.2.2.2.2.all (pm_chk qt_cl pt_me 308) = true := by
  exact pt_ok308_0
theorem pt_c137 : pt_m137.2.2.2.2.2.2.all (pm_chk qt_cl pt_me 137) = true := by
  exact pt_ok137_0
theorem pt_c149 : pt_m149.2.2.2.2.2.2.all (pm_chk qt_cl pt_me 149) = true := by
  exact pt_ok149_0
theorem pt_c307 : pt_m307.2.2.2.2.2.2.all (pm_chk qt_cl pt_me 307) = true := by
  exact pt_ok307_0
theorem pt_c603 : pt_m603.2.2.2.2.2.2.all (pm_chk qt_cl pt_me 603) = true := by
  exact pt_ok603_0
theorem pt_c519 : pt_m519.2.2.2.2.2.2.all (pm_chk qt_cl pt_me 519) = true := by
  exact pt_ok519_0
theorem pt_c611 : pt_m611.2.2.2.2.2.2.all (pm_chk qt_cl pt_me 611) = true := by
  exact pt_ok611_0
theorem pt_c614 : pt_m614.2.2.2.2.2.2.all (pm_chk qt_cl pt_me 614) = true := by
  exact pt_ok614_0
theorem pt_c615 : pt_m615.2.2.2.2.2.2.all (pm_chk qt_cl pt_me 615) = true := by
  exact pt_ok615_0
theorem pt_c904 : pt_m904.2.2.2.2.2.2.all (pm_chk qt_cl pt_me 904) = true := by
  exact pt_ok904_0
theorem pt_c208 : pt_m208.2.2.2.2.2.2.all (pm_chk qt_cl pt_me 208) = true := by
  exact pt_ok208_0
theorem pt_c214 : pt_m214.2.2.2.2.2.2.all (pm_chk qt_cl pt_me 214) = true := by
  exact pt_ok214_0
theorem pt_c215 : pt_m215.2.2.2.2.2.2.all (pm_chk qt_cl pt_me 215) = true := by
  exact pt_ok215_0
theorem pt_c206 : pt_m206.2.2.2.2.2.2.all (pm_chk qt_cl pt_me 206) = true := by
  exact pt_ok206_0
theorem pt_c905 : pt_m905.2.2.2.2.2.2.all (pm_chk qt_cl pt_me 905) = true := by
  exact pt_ok905_0
theorem pt_c139 : pt_m139.2.2.2.2.2.2.all (pm_chk qt_cl pt_me 139) = true := by
  exact pt_ok139_0
theorem pt_c203 : pt_m203.2.2.2.2.2.2.all (pm_chk qt_cl pt_me 203) = true := by
  exact pt_ok203_0
theorem pt_c504 : pt_m504.2.2.2.2.2.2.all (pm_chk qt_cl pt_me 504) = true := by
  exact pt_ok504_0
theorem pt_c212 : pt_m212.2.2.2.2.2.2.all (pm_chk qt_cl pt_me 212) = true := by
  show (pt_q212_0 ++ pt_q212_1).all _ = true
  simp only [List.all_append, pt_ok212_0, pt_ok212_1, Bool.and_self]
theorem pt_c213 : pt_m213.2.2.2.2.2.2.all (pm_chk qt_cl pt_me 213) = true := by
  exact pt_ok213_0
theorem pt_c141 : pt_m141.2.2.2.2.2.2.all (pm_chk qt_cl pt_me 141) = true := by
  exact pt_ok141_0
theorem pt_c210 : pt_m210.2.2.2.2.2.2.all (pm_chk qt_cl pt_me 210) = true := by
  exact pt_ok210_0
theorem pt_c211 : pt_m211.2.2.2.2.2.2.all (pm_chk qt_cl pt_me 211) = true := by
  exact pt_ok211_0
theorem pt_c207 : pt_m207.2.2.2.2.2.2.all (pm_chk qt_cl pt_me 207) = true := by
  exact pt_ok207_0
theorem pt_c510 : pt_m510.2.2.2.2.2.2.all (pm_chk qt_cl pt_me 510) = true := by
  exact pt_ok510_0
theorem pt_c142 : pt_m142.2.2.2.2.2.2.all (pm_chk qt_cl pt_me 142) = true := by
  exact pt_ok142_0
theorem pt_c204 : pt_m204.2.2.2.2.2.2.all (pm_chk qt_cl pt_me 204) = true := by
  exact pt_ok204_0
theorem pt_c505 : pt_m505.2.2.2.2.2.2.all (pm_chk qt_cl pt_me 505) = true := by
  exact pt_ok505_0
theorem pt_c209 : pt_m209.2.2.2.2.2.2.all (pm_chk qt_cl pt_me 209) = true := by
  exact pt_ok209_0
theorem pt_c522 : pt_m522.2.2.2.2.2.2.all (pm_chk qt_cl pt_me 522) = true := by
  exact pt_ok522_0
theorem pt_c143 : pt_m143.2.2.2.2.2.2.all (pm_chk qt_cl pt_me 143) = true := by
  exact pt_ok143_0
theorem pt_c514 : pt_m514.2.2.2.2.2.2.all (pm_chk qt_cl pt_me 514) = true := by
  exact pt_ok514_0
theorem pt_c145 : pt_m145.2.2.2.2.2.2.all (pm_chk qt_cl pt_me 145) = true := by
  exact pt_ok145_0
theorem pt_c216 : pt_m216.2.2.2.2.2.2.all (pm_chk qt_cl pt_me 216) = true := by
  exact pt_ok216_0
theorem pt_c102 : pt_m102.2.2.2.2.2.2.all (pm_chk qt_cl pt_me 102) = true := by
  exact pt_ok102_0
theorem pt_c1004 : pt_m1004.2.2.2.2.2.2.all (pm_chk qt_cl pt_me 1004) = true := by
  exact pt_ok1004_0
theorem pt_c103 : pt_m103.2.2.2.2.2.2.all (pm_chk qt_cl pt_me 103) = true := by
  exact pt_ok103_0
theorem pt_c138 : pt_m138.2.2.2.2.2.2.all (pm_chk qt_cl pt_me 138) = true := by
  exact pt_ok138_0
theorem pt_c135 : pt_m135.2.2.2.2.2.2.all (pm_chk qt_cl pt_me 135) = true := by
  exact pt_ok135_0
theorem pt_c402 : pt_m402.2.2.2.2.2.2.all (pm_chk qt_cl pt_me 402) = true := by
  exact pt_ok402_0
theorem pt_c403 : pt_m403.2.2.2.2.2.2.all (pm_chk qt_cl pt_me 403) = true := by
  exact pt_ok403_0
theorem pt_c404 : pt_m404.2.2.2.2.2.2.all (pm_chk qt_cl pt_me 404) = true := by
  exact pt_ok404_0
theorem pt_c405 : pt_m405.2.2.2.2.2.2.all (pm_chk qt_cl pt_me 405) = true := by
  exact pt_ok405_0
theorem pt_c406 : pt_m406.2.2.2.2.2.2.all (pm_chk qt_cl pt_me 406) = true := by
  exact pt_ok406_0
theorem pt_c407 : pt_m407.2.2.2.2.2.2.all (pm_chk qt_cl pt_me 407) = true := by
  exact pt_ok407_0
theorem pt_c408 : pt_m408.2.2.2.2.2.2.all (pm_chk qt_cl pt_me 408) = true := by
  exact pt_ok408_0
theorem pt_c409 : pt_m409.2.2.2.2.2.2.all (pm_chk qt_cl pt_me 409) = true := by
  exact pt_ok409_0
theorem pt_c411 : pt_m411.2.2.2.2.2.2.all (pm_chk qt_cl pt_me 411) = true := by
  exact pt_ok411_0
theorem pt_c410 : pt_m410.2.2.2.2.2.2.all (pm_chk qt_cl pt_me 410) = true := by
  exact pt_ok410_0
theorem pt_c106 : pt_m106.2.2.2.2.2.2.all (pm_chk qt_cl pt_me 106) = true := by
  exact pt_ok106_0
theorem pt_c205 : pt_m205.2.2.2.2.2.2.all (pm_chk qt_cl pt_me 205) = true := by
  exact pt_ok205_0
theorem pt_c131 : pt_m131.2.2.2.2.2.2.all (pm_chk qt_cl pt_me 131) = true := by
  exact pt_ok131_0
theorem pt_c327 : pt_m327.2.2.2.2.2.2.all (pm_chk qt_cl pt_me 327) = true := by
  exact pt_ok327_0
theorem pt_c122 : pt_m122.2.2.2.2.2.2.all (pm_chk qt_cl pt_me 122) = true := by
  exact pt_ok122_0
theorem pt_c314 : pt_m314.2.2.2.2.2.2.all (pm_chk qt_cl pt_me 314) = true := by
  exact pt_ok314_0
theorem pt_c109 : pt_m109.2.2.2.2.2.2.all (pm_chk qt_cl pt_me 109) = true := by
  exact pt_ok109_0
theorem pt_c110 : pt_m110.2.2.2.2.2.2.all (pm_chk qt_cl pt_me 110) = true := by
  exact pt_ok110_0
theorem pt_c150 : pt_m150.2.2.2.2.2.2.all (pm_chk qt_cl pt_me 150) = true := by
  exact pt_ok150_0
theorem pt_c111 : pt_m111.2.2.2.2.2.2.all (pm_chk qt_cl pt_me 111) = true := by
  exact pt_ok111_0
theorem pt_c114 : pt_m114.2.2.2.2.2.2.all (pm_chk qt_cl pt_me 114) = true := by
  exact pt_ok114_0
theorem pt_c605 : pt_m605.2.2.2.2.2.2.all (pm_chk qt_cl pt_me 605) = true := by
  show (pt_q605_0 ++ pt_q605_1).all _ = true
  simp only [List.all_append, pt_ok605_0, pt_ok605_1, Bool.and_self]
theorem pt_c112 : pt_m112.2.2.2.2.2.2.all (pm_chk qt_cl pt_me 112) = true := by
  exact pt_ok112_0
theorem pt_c146 : pt_m146.2.2.2.2.2.2.all (pm_chk qt_cl pt_me 146) = true := by
  exact pt_ok146_0
theorem pt_c147 : pt_m147.2.2.2.2.2.2.all (pm_chk qt_cl pt_me 147) = true := by
  exact pt_ok147_0
theorem pt_c613 : pt_m613.2.2.2.2.2.2.all (pm_chk qt_cl pt_me 613) = true := by
  exact pt_ok613_0
theorem pt_c523 : pt_m523.2.2.2.2.2.2.all (pm_chk qt_cl pt_me 523) = true := by
  exact pt_ok523_0
theorem pt_c148 : pt_m148.2.2.2.2.2.2.all (pm_chk qt_cl pt_me 148) = true := by
  exact pt_ok148_0
theorem pt_c908 : pt_m908.2.2.2.2.2.2.all (pm_chk qt_cl pt_me 908) = true := by
  exact pt_ok908_0
theorem pt_c124 : pt_m124.2.2.2.2.2.2.all (pm_chk qt_cl pt_me 124) = true := by
  exact pt_ok124_0
theorem pt_c116 : pt_m116.2.2.2.2.2.2.all (pm_chk qt_cl pt_me 116) = true := by
  exact pt_ok116_0
theorem pt_c132 : pt_m132.2.2.2.2.2.2.all (pm_chk qt_cl pt_me 132) = true := by
  exact pt_ok132_0
theorem pt_c328 : pt_m328.2.2.2.2.2.2.all (pm_chk qt_cl pt_me 328) = true := by
  exact pt_ok328_0
theorem pt_c134 : pt_m134.2.2.2.2.2.2.all (pm_chk qt_cl pt_me 134) = true := by
  exact pt_ok134_0
theorem pt_c319 : pt_m319.2.2.2.2.2.2.all (pm_chk qt_cl pt_me 319) = true := by
  show (pt_q319_0 ++ pt_q319_1).all _ = true
  simp only [List.all_append, pt_ok319_0, pt_ok319_1, Bool.and_self]
theorem pt_c136 : pt_m136.2.2.2.2.2.2.all (pm_chk qt_cl pt_me 136) = true := by
  exact pt_ok136_0
theorem pt_c412 : pt_m412.2.2.2.2.2.2.all (pm_chk qt_cl pt_me 412) = true := by
  exact pt_ok412_0
theorem pt_c413 : pt_m413.2.2.2.2.2.2.all (pm_chk qt_cl pt_me 413) = true := by
  exact pt_ok413_0
theorem pt_pg1 : ∀ b, (pt_p1.getD b pt_m0).2.2.2.2.2.2.all (pm_chk qt_cl pt_me (100 + b)) = true := fun b => match b with
  | 0 => rfl
  | 1 => pt_c101
  | 2 => pt_c102
  | 3 => pt_c103
  | 4 => pt_c104
  | 5 => rfl
  | 6 => pt_c106
  | 7 => rfl
  | 8 => pt_c108
  | 9 => pt_c109
  | 10 => pt_c110
  | 11 => pt_c111
  | 12 => pt_c112
  | 13 => rfl
  | 14 => pt_c114
  | 15 => rfl
  | 16 => pt_c116
  | 17 => rfl
  | 18 => rfl
  | 19 => rfl
  | 20 => rfl
  | 21 => pt_c121
  | 22 => pt_c122
  | 23 => rfl
  | 24 => pt_c124
  | 25 => rfl
  | 26 => rfl
  | 27 => rfl
  | 28 => rfl
  | 29 => rfl
  | 30 => rfl
  | 31 => pt_c131
  | 32 => pt_c132
  | 33 => rfl
  | 34 => pt_c134
  | 35 => pt_c135
  | 36 => pt_c136
  | 37 => pt_c137
  | 38 => pt_c138
  | 39 => pt_c139
  | 40 => rfl
  | 41 => pt_c141
  | 42 => pt_c142
  | 43 => pt_c143
  | 44 => rfl
  | 45 => pt_c145
  | 46 => pt_c146
  | 47 => pt_c147
  | 48 => pt_c148
  | 49 => pt_c149
  | 50 => pt_c150
  | 51 => pt_c151
  | _ + 52 => rfl
theorem pt_pg2 : ∀ b, (pt_p2.getD b pt_m0).2.2.2.2.2.2.all (pm_chk qt_cl pt_me (200 + b)) = true := fun b => match b with
  | 0 => rfl
  | 1 => pt_c201
  | 2 => pt_c202
  | 3 => pt_c203
  | 4 => pt_c204
  | 5 => pt_c205
  | 6 => pt_c206
  | 7 => pt_c207
  | 8 => pt_c208
  | 9 => pt_c209
  | 10 => pt_c210
  | 11 => pt_c211
  | 12 => pt_c212
  | 13 => pt_c213
  | 14 => pt_c214
  | 15 => pt_c215
  | 16 => pt_c216
  | _ + 17 => rfl
theorem pt_pg3 : ∀ b, (pt_p3.getD b pt_m0).2.2.2.2.2.2.all (pm_chk qt_cl pt_me (300 + b)) = true := fun b => match b with
  | 0 => rfl
  | 1 => pt_c301
  | 2 => pt_c302
  | 3 => pt_c303
  | 4 => pt_c304
  | 5 => pt_c305
  | 6 => pt_c306
  | 7 => pt_c307
  | 8 => pt_c308
  | 9 => pt_c309
  | 10 => pt_c310
  | 11 => pt_c311
  | 12 => pt_c312
  | 13 => pt_c313
  | 14 => pt_c314
  | 15 => rfl
  | 16 => pt_c316
  | 17 => pt_c317
  | 18 => pt_c318
  | 19 => pt_c319
  | 20 => rfl
  | 21 => rfl
  | 22 => rfl
  | 23 => rfl
  | 24 => rfl
  | 25 => rfl
  | 26 => rfl
  | 27 => pt_c327
  | 28 => pt_c328
  | _ + 29 => rfl
theorem pt_pg4 : ∀ b, (pt_p4.getD b pt_m0).2.2.2.2.2.2.all (pm_chk qt_cl pt_me (400 + b)) = true := fun b => match b with
  | 0 => rfl
  | 1 => pt_c401
  | 2 => pt_c402
  | 3 => pt_c403
  | 4 => pt_c404
  | 5 => pt_c405
  | 6 => pt_c406
  | 7 => pt_c407
  | 8 => pt_c408
  | 9 => pt_c409
  | 10 => pt_c410
  | 11 => pt_c411
  | 12 => pt_c412
  | 13 => pt_c413
  | _ + 14 => rfl
theorem pt_pg5 : ∀ b, (pt_p5.getD b pt_m0).2.2.2.2.2.2.all (pm_chk qt_cl pt_me (500 + b)) = true := fun b => match b with
  | 0 => rfl
  | 1 => pt_c501
  | 2 => pt_c502
  | 3 => pt_c503
  | 4 => pt_c504
  | 5 => pt_c505
  | 6 => pt_c506
  | 7 => pt_c507
  | 8 => pt_c508
  | 9 => pt_c509
  | 10 => pt_c510
  | 11 => pt_c511
  | 12 => pt_c512
  | 13 => pt_c513
  | 14 => pt_c514
  | 15 => pt_c515
  | 16 => pt_c516
  | 17 => pt_c517
  | 18 => pt_c518
  | 19 => pt_c519
  | 20 => pt_c520
  | 21 => pt_c521
  | 22 => pt_c522
  | 23 => pt_c523
  | 24 => pt_c524
  | 25 => pt_c525
  | 26 => rfl
  | 27 => pt_c527
  | 28 => pt_c528
  | 29 => pt_c529
  | _ + 30 => rfl
theorem pt_pg6 : ∀ b, (pt_p6.getD b pt_m0).2.2.2.2.2.2.all (pm_chk qt_cl pt_me (600 + b)) = true := fun b => match b with
  | 0 => rfl
  | 1 => pt_c601
  | 2 => pt_c602
  | 3 => pt_c603
  | 4 => pt_c604
  | 5 => pt_c605
  | 6 => pt_c606
  | 7 => pt_c607
  | 8 => pt_c608
  | 9 => pt_c609
  | 10 => pt_c610
  | 11 => pt_c611
  | 12 => rfl
  | 13 => pt_c613
  | 14 => pt_c614
  | 15 => pt_c615
  | _ + 16 => rfl
theorem pt_pg7 : ∀ b, (pt_p7.getD b pt_m0).2.2.2.2.2.2.all (pm_chk qt_cl pt_me (700 + b)) = true := fun b => match b with
  | 0 => rfl
  | 1 => pt_c701
  | 2 => pt_c702
  | 3 => pt_c703
  | 4 => pt_c704
  | 5 => pt_c705
  | 6 => pt_c706
  | 7 => pt_c707
  | 8 => pt_c708
  | 9 => pt_c709
  | 10 => pt_c710
  | 11 => pt_c711
  | 12 => pt_c712
  | 13 => pt_c713
  | 14 => pt_c714
  | 15 => pt_c715
  | 16 => pt_c716
  | 17 => pt_c717
  | 18 => pt_c718
  | 19 => pt_c719
  | 20 => pt_c720
  | 21 => pt_c721
  | 22 => pt_c722
  | 23 => pt_c723
  | 24 => pt_c724
  | 25 => pt_c725
  | 26 => pt_c726
  | 27 => pt_c727
  | _ + 28 => rfl
theorem pt_pg8 : ∀ b, (pt_p8.getD b pt_m0).2.2.2.2.2.2.all (pm_chk qt_cl pt_me (800 + b)) = true := fun b => match b with
  | 0 => rfl
  | 1 => pt_c801
  | _ + 2 => rfl
theorem pt_pg9 : ∀ b, (pt_p9.getD b pt_m0).2.2.2.2.2.2.all (pm_chk qt_cl pt_me (900 + b)) = true := fun b => match b with
  | 0 => rfl
  | 1 => rfl
  | 2 => pt_c902
  | 3 => pt_c903
  | 4 => pt_c904
  | 5 => pt_c905
  | 6 => pt_c906
  | 7 => pt_c907
  | 8 => pt_c908
  | _ + 9 => rfl
theorem pt_pg10 : ∀ b, (pt_p10.getD b pt_m0).2.2.2.2.2.2.all (pm_chk qt_cl pt_me (1000 + b)) = true := fun b => match b with
  | 0 => rfl
  | 1 => pt_c1001
  | 2 => pt_c1002
  | 3 => pt_c1003
  | 4 => pt_c1004
  | 5 => pt_c1005
  | _ + 6 => rfl
theorem pt_pg15 : ∀ b, (pt_p15.getD b pt_m0).2.2.2.2.2.2.all (pm_chk qt_cl pt_me (1500 + b)) = true := fun b => match b with
  | 0 => rfl
  | 1 => pt_c1501
  | 2 => pt_c1502
  | 3 => pt_c1503
  | 4 => pt_c1504
  | 5 => pt_c1505
  | 6 => pt_c1506
  | 7 => pt_c1507
  | 8 => pt_c1508
  | 9 => pt_c1509
  | 10 => pt_c1510
  | 11 => pt_c1511
  | 12 => pt_c1512
  | _ + 13 => rfl
theorem pt_pages : ∀ (a b : Nat), ((pt_ml.getD a []).getD b pt_m0).2.2.2.2.2.2.all (pm_chk qt_cl pt_me (100 * a + b)) = true := fun a => match a with
  | 0 => fun _ => rfl
  | 1 => pt_pg1
  | 2 => pt_pg2
  | 3 => pt_pg3
  | 4 => pt_pg4
  | 5 => pt_pg5
  | 6 => pt_pg6
  | 7 => pt_pg7
  | 8 => pt_pg8
  | 9 => pt_pg9
  | 10 => pt_pg10
  | 11 => fun _ => rfl
  | 12 => fun _ => rfl
  | 13 => fun _ => rfl
  | 14 => fun _ => rfl
  | 15 => pt_pg15
  | _ + 16 => fun _ => rfl
theorem pt_all (mi : Nat) (q : pm_Q) (h : q ∈ (pt_me mi).2.2.2.2.2.2) : pm_chk qt_cl pt_me mi q = true := by
  have h1 := pt_pages (mi / 100) (mi % 100)
  rw [show 100 * (mi / 100) + mi % 100 = mi by omega] at h1
  exact List.all_eq_true.mp h1 q h
theorem qt_c1501 : qt_m1501.2.2.2.2.2.2.all (qm_chk qt_cl qt_qs qt_sx qt_me 1501) = true := by
  exact qt_ok1501_0
theorem qt_c1502 : qt_m1502.2.2.2.2.2.2.all (qm_chk qt_cl qt_qs qt_sx qt_me 1502) = true := by
  exact qt_ok1502_0
theorem qt_c1503 : qt_m1503.2.2.2.2.2.2.all (qm_chk qt_cl qt_qs qt_sx qt_me 1503) = true := by
  exact qt_ok1503_0
theorem qt_c1504 : qt_m1504.2.2.2.2.2.2.all (qm_chk qt_cl qt_qs qt_sx qt_me 1504) = true := by
  exact qt_ok1504_0
theorem qt_c1505 : qt_m1505.2.2.2.2.2.2.all (qm_chk qt_cl qt_qs qt_sx qt_me 1505) = true := by
  exact qt_ok1505_0
theorem qt_c1506 : qt_m1506.2.2.2.2.2.2.all (qm_chk qt_cl qt_qs qt_sx qt_me 1506) = true := by
  exact qt_ok1506_0
theorem qt_c1507 : qt_m1507.2.2.2.2.2.2.all (qm_chk qt_cl qt_qs qt_sx qt_me 1507) = true := by
  exact qt_ok1507_0
theorem qt_c1511 : qt_m1511.2.2.2.2.2.2.all (qm_chk qt_cl qt_qs qt_sx qt_me 1511) = true := by
  exact qt_ok1511_0
theorem qt_c1512 : qt_m1512.2.2.2.2.2.2.all (qm_chk qt_cl qt_qs qt_sx qt_me 1512) = true := by
  exact qt_ok1512_0
theorem qt_c1202 : qt_m1202.2.2.2.2.2.2.all (qm_chk qt_cl qt_qs qt_sx qt_me 1202) = true := by
  show (qt_q1202_0 ++ qt_q1202_1 ++ qt_q1202_2 ++ qt_q1202_3 ++ qt_q1202_4 ++ qt_q1202_5 ++ qt_q1202_6 ++ qt_q1202_7 ++ qt_q1202_8).all _ = true
  simp only [List.all_append, qt_ok1202_0, qt_ok1202_1, qt_ok1202_2, qt_ok1202_3, qt_ok1202_4, qt_ok1202_5, qt_ok1202_6, qt_ok1202_7, qt_ok1202_8, Bool.and_self]
theorem qt_c1201 : qt_m1201.2.2.2.2.2.2.all (qm_chk qt_cl qt_qs qt_sx qt_me 1201) = true := by
  exact qt_ok1201_0
theorem qt_c3 : qt_m3.2.2.2.2.2.2.all (qm_chk qt_cl qt_qs qt_sx qt_me 3) = true := by
  exact qt_ok3_0
theorem qt_c2 : qt_m2.2.2.2.2.2.2.all (qm_chk qt_cl qt_qs qt_sx qt_me 2) = true := by
  exact qt_ok2_0
theorem qt_c1521 : qt_m1521.2.2.2.2.2.2.all (qm_chk qt_cl qt_qs qt_sx qt_me 1521) = true := by
  exact qt_ok1521_0
theorem qt_c1522 : qt_m1522.2.2.2.2.2.2.all (qm_chk qt_cl qt_qs qt_sx qt_me 1522) = true := by
  exact qt_ok1522_0
theorem qt_c1523 : qt_m1523.2.2.2.2.2.2.all (qm_chk qt_cl qt_qs qt_sx qt_me 1523) = true := by
  exact qt_ok1523_0
theorem qt_c1524 : qt_m1524.2.2.2.2.2.2.all (qm_chk qt_cl qt_qs qt_sx qt_me 1524) = true := by
  exact qt_ok1524_0
theorem qt_c1526 : qt_m1526.2.2.2.2.2.2.all (qm_chk qt_cl qt_qs qt_sx qt_me 1526) = true := by
  exact qt_ok1526_0
theorem qt_c1527 : qt_m1527.2.2.2.2.2.2.all (qm_chk qt_cl qt_qs qt_sx qt_me 1527) = true := by
  exact qt_ok1527_0
theorem qt_c1528 : qt_m1528.2.2.2.2.2.2.all (qm_chk qt_cl qt_qs qt_sx qt_me 1528) = true := by
  exact qt_ok1528_0
theorem qt_c1529 : qt_m1529.2.2.2.2.2.2.all (qm_chk qt_cl qt_qs qt_sx qt_me 1529) = true := by
  exact qt_ok1529_0
theorem qt_c1530 : qt_m1530.2.2.2.2.2.2.all (qm_chk qt_cl qt_qs qt_sx qt_me 1530) = true := by
  exact qt_ok1530_0
theorem qt_c1531 : qt_m1531.2.2.2.2.2.2.all (qm_chk qt_cl qt_qs qt_sx qt_me 1531) = true := by
  exact qt_ok1531_0
theorem qt_c1534 : qt_m1534.2.2.2.2.2.2.all (qm_chk qt_cl qt_qs qt_sx qt_me 1534) = true := by
  exact qt_ok1534_0
theorem qt_c1535 : qt_m1535.2.2.2.2.2.2.all (qm_chk qt_cl qt_qs qt_sx qt_me 1535) = true := by
  exact qt_ok1535_0
theorem qt_c1537 : qt_m1537.2.2.2.2.2.2.all (qm_chk qt_cl qt_qs qt_sx qt_me 1537) = true := by
  exact qt_ok1537_0
theorem qt_c1540 : qt_m1540.2.2.2.2.2.2.all (qm_chk qt_cl qt_qs qt_sx qt_me 1540) = true := by
  exact qt_ok1540_0
theorem qt_c1541 : qt_m1541.2.2.2.2.2.2.all (qm_chk qt_cl qt_qs qt_sx qt_me 1541) = true := by
  exact qt_ok1541_0
theorem qt_c1542 : qt_m1542.2.2.2.2.2.2.all (qm_chk qt_cl qt_qs qt_sx qt_me 1542) = true := by
  exact qt_ok1542_0
theorem qt_c1543 : qt_m1543.2.2.2.2.2.2.all (qm_chk qt_cl qt_qs qt_sx qt_me 1543) = true := by
  exact qt_ok1543_0
theorem qt_c1544 : qt_m1544.2.2.2.2.2.2.all (qm_chk qt_cl qt_qs qt_sx qt_me 1544) = true := by
  show (qt_q1544_0 ++ qt_q1544_1).all _ = true
  simp only [List.all_append, qt_ok1544_0, qt_ok1544_1, Bool.and_self]
theorem qt_c1545 : qt_m1545.2.2.2.2.2.2.all (qm_chk qt_cl qt_qs qt_sx qt_me 1545) = true := by
  exact qt_ok1545_0
theorem qt_c1546 : qt_m1546.2.2.2.2.2.2.all (qm_chk qt_cl qt_qs qt_sx qt_me 1546) = true := by
  exact qt_ok1546_0
theorem qt_c1547 : qt_m1547.2.2.2.2.2.2.all (qm_chk qt_cl qt_qs qt_sx qt_me 1547) = true := by
  exact qt_ok1547_0
theorem qt_c1548 : qt_m1548.2.2.2.2.2.2.all (qm_chk qt_cl qt_qs qt_sx qt_me 1548) = true := by
  exact qt_ok1548_0
theorem qt_c1549 : qt_m1549.2.2.2.2.2.2.all (qm_chk qt_cl qt_qs qt_sx qt_me 1549) = true := by
  exact qt_ok1549_0
theorem qt_c1550 : qt_m1550.2.2.2.2.2.2.all (qm_chk qt_cl qt_qs qt_sx qt_me 1550) = true := by
  exact qt_ok1550_0
theorem qt_c1551 : qt_m1551.2.2.2.2.2.2.all (qm_chk qt_cl qt_qs qt_sx qt_me 1551) = true := by
  exact qt_ok1551_0
theorem qt_c1552 : qt_m1552.2.2.2.2.2.2.all (qm_chk qt_cl qt_qs qt_sx qt_me 1552) = true := by
  exact qt_ok1552_0
theorem qt_c1553 : qt_m1553.2.2.2.2.2.2.all (qm_chk qt_cl qt_qs qt_sx qt_me 1553) = true := by
  exact qt_ok1553_0
theorem qt_c1554 : qt_m1554.2.2.2.2.2.2.all (qm_chk qt_cl qt_qs qt_sx qt_me 1554) = true := by
  exact qt_ok1554_0
theorem qt_c1555 : qt_m1555.2.2.2.2.2.2.all (qm_chk qt_cl qt_qs qt_sx qt_me 1555) = true := by
  exact qt_ok1555_0
theorem qt_c1556 : qt_m1556.2.2.2.2.2.2.all (qm_chk qt_cl qt_qs qt_sx qt_me 1556) = true := by
  exact qt_ok1556_0
theorem qt_c1203 : qt_m1203.2.2.2.2.2.2.all (qm_chk qt_cl qt_qs qt_sx qt_me 1203) = true := by
  exact qt_ok1203_0
theorem qt_c4 : qt_m4.2.2.2.2.2.2.all (qm_chk qt_cl qt_qs qt_sx qt_me 4) = true := by
  show (qt_q4_0 ++ qt_q4_1).all _ = true
  simp only [List.all_append, qt_ok4_0, qt_ok4_1, Bool.and_self]
theorem qt_c5 : qt_m5.2.2.2.2.2.2.all (qm_chk qt_cl qt_qs qt_sx qt_me 5) = true := by
  show (qt_q5_0 ++ qt_q5_1).all _ = true
  simp only [List.all_append, qt_ok5_0, qt_ok5_1, Bool.and_self]
theorem qt_c7 : qt_m7.2.2.2.2.2.2.all (qm_chk qt_cl qt_qs qt_sx qt_me 7) = true := by
  exact qt_ok7_0
theorem qt_c8 : qt_m8.2.2.2.2.2.2.all (qm_chk qt_cl qt_qs qt_sx qt_me 8) = true := by
  show (qt_q8_0 ++ qt_q8_1 ++ qt_q8_2 ++ qt_q8_3 ++ qt_q8_4 ++ qt_q8_5).all _ = true
  simp only [List.all_append, qt_ok8_0, qt_ok8_1, qt_ok8_2, qt_ok8_3, qt_ok8_4, qt_ok8_5, Bool.and_self]
theorem qt_c9 : qt_m9.2.2.2.2.2.2.all (qm_chk qt_cl qt_qs qt_sx qt_me 9) = true := by
  show (qt_q9_0 ++ qt_q9_1).all _ = true
  simp only [List.all_append, qt_ok9_0, qt_ok9_1, Bool.and_self]
theorem qt_c1204 : qt_m1204.2.2.2.2.2.2.all (qm_chk qt_cl qt_qs qt_sx qt_me 1204) = true := by
  exact qt_ok1204_0
theorem qt_c1557 : qt_m1557.2.2.2.2.2.2.all (qm_chk qt_cl qt_qs qt_sx qt_me 1557) = true := by
  exact qt_ok1557_0
theorem qt_c1558 : qt_m1558.2.2.2.2.2.2.all (qm_chk qt_cl qt_qs qt_sx qt_me 1558) = true := by
  exact qt_ok1558_0
theorem qt_c1559 : qt_m1559.2.2.2.2.2.2.all (qm_chk qt_cl qt_qs qt_sx qt_me 1559) = true := by
  exact qt_ok1559_0
theorem qt_c1560 : qt_m1560.2.2.2.2.2.2.all (qm_chk qt_cl qt_qs qt_sx qt_me 1560) = true := by
  exact qt_ok1560_0
theorem qt_c1563 : qt_m1563.2.2.2.2.2.2.all (qm_chk qt_cl qt_qs qt_sx qt_me 1563) = true := by
  exact qt_ok1563_0
theorem qt_c1564 : qt_m1564.2.2.2.2.2.2.all (qm_chk qt_cl qt_qs qt_sx qt_me 1564) = true := by
  exact qt_ok1564_0
theorem qt_c1565 : qt_m1565.2.2.2.2.2.2.all (qm_chk qt_cl qt_qs qt_sx qt_me 1565) = true := by
  exact qt_ok1565_0
theorem qt_c1566 : qt_m1566.2.2.2.2.2.2.all (qm_chk qt_cl qt_qs qt_sx qt_me 1566) = true := by
  exact qt_ok1566_0
theorem qt_c1569 : qt_m1569.2.2.2.2.2.2.all (qm_chk qt_cl qt_qs qt_sx qt_me 1569) = true := by
  exact qt_ok1569_0
theorem qt_c1570 : qt_m1570.2.2.2.2.2.2.all (qm_chk qt_cl qt_qs qt_sx qt_me 1570) = true := by
  exact qt_ok1570_0
theorem qt_c1571 : qt_m1571.2.2.2.2.2.2.all (qm_chk qt_cl qt_qs qt_sx qt_me 1571) = true := by
  exact qt_ok1571_0
theorem qt_c1572 : qt_m1572.2.2.2.2.2.2.all (qm_chk qt_cl qt_qs qt_sx qt_me 1572) = true := by
  exact qt_ok1572_0
theorem qt_c1573 : qt_m1573.2.2.2.2.2.2.all (qm_chk qt_cl qt_qs qt_sx qt_me 1573) = true := by
  exact qt_ok1573_0
theorem qt_c1574 : qt_m1574.2.2.2.2.2.2.all (qm_chk qt_cl qt_qs qt_sx qt_me 1574) = true := by
  exact qt_ok1574_0
theorem qt_c6 : qt_m6.2.2.2.2.2.2.all (qm_chk qt_cl qt_qs qt_sx qt_me 6) = true := by
  show (qt_q6_0 ++ qt_q6_1 ++ qt_q6_2 ++ qt_q6_3 ++ qt_q6_4 ++ qt_q6_5 ++ qt_q6_6).all _ = true
  simp only [List.all_append, qt_ok6_0, qt_ok6_1, qt_ok6_2, qt_ok6_3, qt_ok6_4, qt_ok6_5, qt_ok6_6, Bool.and_self]
theorem qt_pg0 : ∀ b, (qt_p0.getD b pt_m0).2.2.2.2.2.2.all (qm_chk qt_cl qt_qs qt_sx qt_me (0 + b)) = true := fun b => match b with
  | 0 => rfl
  | 1 => rfl
  | 2 => qt_c2
  | 3 => qt_c3
  | 4 => qt_c4
  | 5 => qt_c5
  | 6 => qt_c6
  | 7 => qt_c7
  | 8 => qt_c8
  | 9 => qt_c9
  | _ + 10 => rfl
theorem qt_pg12 : ∀ b, (qt_p12.getD b pt_m0).2.2.2.2.2.2.all (qm_chk qt_cl qt_qs qt_sx qt_me (1200 + b)) = true := fun b => match b with
  | 0 => rfl
  | 1 => qt_c1201
  | 2 => qt_c1202
  | 3 => qt_c1203
  | 4 => qt_c1204
  | _ + 5 => rfl
theorem qt_pg15 : ∀ b, (qt_p15.getD b pt_m0).2.2.2.2.2.2.all (qm_chk qt_cl qt_qs qt_sx qt_me (1500 + b)) = true := fun b => match b with
  | 0 => rfl
  | 1 => qt_c1501
  | 2 => qt_c1502
  | 3 => qt_c1503
  | 4 => qt_c1504
  | 5 => qt_c1505
  | 6 => qt_c1506
  | 7 => qt_c1507
  | 8 => rfl
  | 9 => rfl
  | 10 => rfl
  | 11 => qt_c1511
  | 12 => qt_c1512
  | 13 => rfl
  | 14 => rfl
  | 15 => rfl
  | 16 => rfl
  | 17 => rfl
  | 18 => rfl
  | 19 => rfl
  | 20 => rfl
  | 21 => qt_c1521
  | 22 => qt_c1522
  | 23 => qt_c1523
  | 24 => qt_c1524
  | 25 => rfl
  | 26 => qt_c1526
  | 27 => qt_c1527
  | 28 => qt_c1528
  | 29 => qt_c1529
  | 30 => qt_c1530
  | 31 => qt_c1531
  | 32 => rfl
  | 33 => rfl
  | 34 => qt_c1534
  | 35 => qt_c1535
  | 36 => rfl
  | 37 => qt_c1537
  | 38 => rfl
  | 39 => rfl
  | 40 => qt_c1540
  | 41 => qt_c1541
  | 42 => qt_c1542
  | 43 => qt_c1543
  | 44 => qt_c1544
  | 45 => qt_c1545
  | 46 => qt_c1546
  | 47 => qt_c1547
  | 48 => qt_c1548
  | 49 => qt_c1549
  | 50 => qt_c1550
  | 51 => qt_c1551
  | 52 => qt_c1552
  | 53 => qt_c1553
  | 54 => qt_c1554
  | 55 => qt_c1555
  | 56 => qt_c1556
  | 57 => qt_c1557
  | 58 => qt_c1558
  | 59 => qt_c1559
  | 60 => qt_c1560
  | 61 => rfl
  | 62 => rfl
  | 63 => qt_c1563
  | 64 => qt_c1564
  | 65 => qt_c1565
  | 66 => qt_c1566
  | 67 => rfl
  | 68 => rfl
  | 69 => qt_c1569
  | 70 => qt_c1570
  | 71 => qt_c1571
  | 72 => qt_c1572
  | 73 => qt_c1573
  | 74 => qt_c1574
  | _ + 75 => rfl
theorem qt_pages : ∀ (a b : Nat), ((qt_ml.getD a []).getD b pt_m0).2.2.2.2.2.2.all (qm_chk qt_cl qt_qs qt_sx qt_me (100 * a + b)) = true := fun a => match a with
  | 0 => qt_pg0
  | 1 => fun _ => rfl
  | 2 => fun _ => rfl
  | 3 => fun _ => rfl
  | 4 => fun _ => rfl
  | 5 => fun _ => rfl
  | 6 => fun _ => rfl
  | 7 => fun _ => rfl
  | 8 => fun _ => rfl
  | 9 => fun _ => rfl
  | 10 => fun _ => rfl
  | 11 => fun _ => rfl
  | 12 => qt_pg12
  | 13 => fun _ => rfl
  | 14 => fun _ => rfl
  | 15 => qt_pg15
  | _ + 16 => fun _ => rfl
theorem qt_all (mi : Nat) (q : pm_Q) (h : q ∈ (qt_me mi).2.2.2.2.2.2) : qm_chk qt_cl qt_qs qt_sx qt_me mi q = true := by
  have h1 := qt_pages (mi / 100) (mi % 100)
  rw [show 100 * (mi / 100) + mi % 100 = mi by omega] at h1
  exact List.all_eq_true.mp h1 q h
