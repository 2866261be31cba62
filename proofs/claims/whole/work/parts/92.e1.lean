/-! ===== the tables are right, all together ===== -/
theorem pt_c101 : pt_m101.2.2.2.2.2.2.all (pm_chk pt_cl pt_me 101) = true := by
  exact pt_ok101_0
theorem pt_c1001 : pt_m1001.2.2.2.2.2.2.all (pm_chk pt_cl pt_me 1001) = true := by
  exact pt_ok1001_0
theorem pt_c501 : pt_m501.2.2.2.2.2.2.all (pm_chk pt_cl pt_me 501) = true := by
  exact pt_ok501_0
theorem pt_c701 : pt_m701.2.2.2.2.2.2.all (pm_chk pt_cl pt_me 701) = true := by
  show (pt_q701_0 ++ pt_q701_1).all _ = true
  rw [List.all_append, pt_ok701_0, pt_ok701_1]
  rfl
theorem pt_c1501 : pt_m1501.2.2.2.2.2.2.all (pm_chk pt_cl pt_me 1501) = true := by
  exact pt_ok1501_0
theorem pt_c1502 : pt_m1502.2.2.2.2.2.2.all (pm_chk pt_cl pt_me 1502) = true := by
  exact pt_ok1502_0
theorem pt_c1503 : pt_m1503.2.2.2.2.2.2.all (pm_chk pt_cl pt_me 1503) = true := by
  exact pt_ok1503_0
theorem pt_c1504 : pt_m1504.2.2.2.2.2.2.all (pm_chk pt_cl pt_me 1504) = true := by
  exact pt_ok1504_0
theorem pt_c1505 : pt_m1505.2.2.2.2.2.2.all (pm_chk pt_cl pt_me 1505) = true := by
  exact pt_ok1505_0
theorem pt_c1506 : pt_m1506.2.2.2.2.2.2.all (pm_chk pt_cl pt_me 1506) = true := by
  exact pt_ok1506_0
theorem pt_c1507 : pt_m1507.2.2.2.2.2.2.all (pm_chk pt_cl pt_me 1507) = true := by
  exact pt_ok1507_0
theorem pt_c724 : pt_m724.2.2.2.2.2.2.all (pm_chk pt_cl pt_me 724) = true := by
  exact pt_ok724_0
theorem pt_c601 : pt_m601.2.2.2.2.2.2.all (pm_chk pt_cl pt_me 601) = true := by
  exact pt_ok601_0
theorem pt_c801 : pt_m801.2.2.2.2.2.2.all (pm_chk pt_cl pt_me 801) = true := by
  exact pt_ok801_0
theorem pt_c301 : pt_m301.2.2.2.2.2.2.all (pm_chk pt_cl pt_me 301) = true := by
  exact pt_ok301_0
theorem pt_c401 : pt_m401.2.2.2.2.2.2.all (pm_chk pt_cl pt_me 401) = true := by
  exact pt_ok401_0
theorem pt_c201 : pt_m201.2.2.2.2.2.2.all (pm_chk pt_cl pt_me 201) = true := by
  exact pt_ok201_0
theorem pt_c102 : pt_m102.2.2.2.2.2.2.all (pm_chk pt_cl pt_me 102) = true := by
  exact pt_ok102_0
theorem pt_c1002 : pt_m1002.2.2.2.2.2.2.all (pm_chk pt_cl pt_me 1002) = true := by
  exact pt_ok1002_0
theorem pt_c1004 : pt_m1004.2.2.2.2.2.2.all (pm_chk pt_cl pt_me 1004) = true := by
  exact pt_ok1004_0
theorem pt_c103 : pt_m103.2.2.2.2.2.2.all (pm_chk pt_cl pt_me 103) = true := by
  exact pt_ok103_0
theorem pt_c1005 : pt_m1005.2.2.2.2.2.2.all (pm_chk pt_cl pt_me 1005) = true := by
  exact pt_ok1005_0
theorem pt_c104 : pt_m104.2.2.2.2.2.2.all (pm_chk pt_cl pt_me 104) = true := by
  exact pt_ok104_0
theorem pt_c702 : pt_m702.2.2.2.2.2.2.all (pm_chk pt_cl pt_me 702) = true := by
  exact pt_ok702_0
theorem pt_c502 : pt_m502.2.2.2.2.2.2.all (pm_chk pt_cl pt_me 502) = true := by
  exact pt_ok502_0
theorem pt_c721 : pt_m721.2.2.2.2.2.2.all (pm_chk pt_cl pt_me 721) = true := by
  show (pt_q721_0 ++ pt_q721_1).all _ = true
  rw [List.all_append, pt_ok721_0, pt_ok721_1]
  rfl
theorem pt_c1003 : pt_m1003.2.2.2.2.2.2.all (pm_chk pt_cl pt_me 1003) = true := by
  exact pt_ok1003_0
theorem pt_c725 : pt_m725.2.2.2.2.2.2.all (pm_chk pt_cl pt_me 725) = true := by
  exact pt_ok725_0
theorem pt_c726 : pt_m726.2.2.2.2.2.2.all (pm_chk pt_cl pt_me 726) = true := by
  exact pt_ok726_0
theorem pt_c722 : pt_m722.2.2.2.2.2.2.all (pm_chk pt_cl pt_me 722) = true := by
  exact pt_ok722_0
theorem pt_c720 : pt_m720.2.2.2.2.2.2.all (pm_chk pt_cl pt_me 720) = true := by
  exact pt_ok720_0
theorem pt_c727 : pt_m727.2.2.2.2.2.2.all (pm_chk pt_cl pt_me 727) = true := by
  exact pt_ok727_0
theorem pt_c723 : pt_m723.2.2.2.2.2.2.all (pm_chk pt_cl pt_me 723) = true := by
  exact pt_ok723_0
theorem pt_c703 : pt_m703.2.2.2.2.2.2.all (pm_chk pt_cl pt_me 703) = true := by
  exact pt_ok703_0
theorem pt_c706 : pt_m706.2.2.2.2.2.2.all (pm_chk pt_cl pt_me 706) = true := by
  show (pt_q706_0 ++ pt_q706_1).all _ = true
  rw [List.all_append, pt_ok706_0, pt_ok706_1]
  rfl
theorem pt_c709 : pt_m709.2.2.2.2.2.2.all (pm_chk pt_cl pt_me 709) = true := by
  exact pt_ok709_0
theorem pt_c707 : pt_m707.2.2.2.2.2.2.all (pm_chk pt_cl pt_me 707) = true := by
  exact pt_ok707_0
theorem pt_c151 : pt_m151.2.2.2.2.2.2.all (pm_chk pt_cl pt_me 151) = true := by
  exact pt_ok151_0
theorem pt_c704 : pt_m704.2.2.2.2.2.2.all (pm_chk pt_cl pt_me 704) = true := by
  exact pt_ok704_0
theorem pt_c714 : pt_m714.2.2.2.2.2.2.all (pm_chk pt_cl pt_me 714) = true := by
  exact pt_ok714_0
theorem pt_c705 : pt_m705.2.2.2.2.2.2.all (pm_chk pt_cl pt_me 705) = true := by
  exact pt_ok705_0
theorem pt_c715 : pt_m715.2.2.2.2.2.2.all (pm_chk pt_cl pt_me 715) = true := by
  exact pt_ok715_0
theorem pt_c708 : pt_m708.2.2.2.2.2.2.all (pm_chk pt_cl pt_me 708) = true := by
  exact pt_ok708_0
theorem pt_c710 : pt_m710.2.2.2.2.2.2.all (pm_chk pt_cl pt_me 710) = true := by
  exact pt_ok710_0
theorem pt_c719 : pt_m719.2.2.2.2.2.2.all (pm_chk pt_cl pt_me 719) = true := by
  exact pt_ok719_0
theorem pt_c717 : pt_m717.2.2.2.2.2.2.all (pm_chk pt_cl pt_me 717) = true := by
  exact pt_ok717_0
theorem pt_c711 : pt_m711.2.2.2.2.2.2.all (pm_chk pt_cl pt_me 711) = true := by
  show (pt_q711_0 ++ pt_q711_1).all _ = true
  rw [List.all_append, pt_ok711_0, pt_ok711_1]
  rfl
theorem pt_c716 : pt_m716.2.2.2.2.2.2.all (pm_chk pt_cl pt_me 716) = true := by
  exact pt_ok716_0
theorem pt_c712 : pt_m712.2.2.2.2.2.2.all (pm_chk pt_cl pt_me 712) = true := by
  exact pt_ok712_0
theorem pt_c718 : pt_m718.2.2.2.2.2.2.all (pm_chk pt_cl pt_me 718) = true := by
  exact pt_ok718_0
theorem pt_c713 : pt_m713.2.2.2.2.2.2.all (pm_chk pt_cl pt_me 713) = true := by
  exact pt_ok713_0
theorem pt_c503 : pt_m503.2.2.2.2.2.2.all (pm_chk pt_cl pt_me 503) = true := by
  show (pt_q503_0 ++ pt_q503_1).all _ = true
  rw [List.all_append, pt_ok503_0, pt_ok503_1]
  rfl
theorem pt_c202 : pt_m202.2.2.2.2.2.2.all (pm_chk pt_cl pt_me 202) = true := by
  exact pt_ok202_0
theorem pt_c105 : pt_m105.2.2.2.2.2.2.all (pm_chk pt_cl pt_me 105) = true := by
  exact pt_ok105_0
theorem pt_c106 : pt_m106.2.2.2.2.2.2.all (pm_chk pt_cl pt_me 106) = true := by
  exact pt_ok106_0
theorem pt_c504 : pt_m504.2.2.2.2.2.2.all (pm_chk pt_cl pt_me 504) = true := by
  exact pt_ok504_0
theorem pt_c508 : pt_m508.2.2.2.2.2.2.all (pm_chk pt_cl pt_me 508) = true := by
  exact pt_ok508_0
theorem pt_c509 : pt_m509.2.2.2.2.2.2.all (pm_chk pt_cl pt_me 509) = true := by
  exact pt_ok509_0
theorem pt_c510 : pt_m510.2.2.2.2.2.2.all (pm_chk pt_cl pt_me 510) = true := by
  exact pt_ok510_0
theorem pt_c205 : pt_m205.2.2.2.2.2.2.all (pm_chk pt_cl pt_me 205) = true := by
  exact pt_ok205_0
theorem pt_c206 : pt_m206.2.2.2.2.2.2.all (pm_chk pt_cl pt_me 206) = true := by
  exact pt_ok206_0
theorem pt_c905 : pt_m905.2.2.2.2.2.2.all (pm_chk pt_cl pt_me 905) = true := by
  exact pt_ok905_0
theorem pt_c902 : pt_m902.2.2.2.2.2.2.all (pm_chk pt_cl pt_me 902) = true := by
  exact pt_ok902_0
theorem pt_c1508 : pt_m1508.2.2.2.2.2.2.all (pm_chk pt_cl pt_me 1508) = true := by
  exact pt_ok1508_0
theorem pt_c511 : pt_m511.2.2.2.2.2.2.all (pm_chk pt_cl pt_me 511) = true := by
  exact pt_ok511_0
theorem pt_c107 : pt_m107.2.2.2.2.2.2.all (pm_chk pt_cl pt_me 107) = true := by
  exact pt_ok107_0
theorem pt_c505 : pt_m505.2.2.2.2.2.2.all (pm_chk pt_cl pt_me 505) = true := by
  exact pt_ok505_0
theorem pt_c512 : pt_m512.2.2.2.2.2.2.all (pm_chk pt_cl pt_me 512) = true := by
  exact pt_ok512_0
theorem pt_c108 : pt_m108.2.2.2.2.2.2.all (pm_chk pt_cl pt_me 108) = true := by
  exact pt_ok108_0
theorem pt_c517 : pt_m517.2.2.2.2.2.2.all (pm_chk pt_cl pt_me 517) = true := by
  exact pt_ok517_0
theorem pt_c507 : pt_m507.2.2.2.2.2.2.all (pm_chk pt_cl pt_me 507) = true := by
  exact pt_ok507_0
theorem pt_c515 : pt_m515.2.2.2.2.2.2.all (pm_chk pt_cl pt_me 515) = true := by
  exact pt_ok515_0
theorem pt_c516 : pt_m516.2.2.2.2.2.2.all (pm_chk pt_cl pt_me 516) = true := by
  exact pt_ok516_0
theorem pt_c109 : pt_m109.2.2.2.2.2.2.all (pm_chk pt_cl pt_me 109) = true := by
  exact pt_ok109_0
theorem pt_c110 : pt_m110.2.2.2.2.2.2.all (pm_chk pt_cl pt_me 110) = true := by
  exact pt_ok110_0
theorem pt_c506 : pt_m506.2.2.2.2.2.2.all (pm_chk pt_cl pt_me 506) = true := by
  exact pt_ok506_0
theorem pt_c150 : pt_m150.2.2.2.2.2.2.all (pm_chk pt_cl pt_me 150) = true := by
  exact pt_ok150_0
theorem pt_c602 : pt_m602.2.2.2.2.2.2.all (pm_chk pt_cl pt_me 602) = true := by
  exact pt_ok602_0
theorem pt_c518 : pt_m518.2.2.2.2.2.2.all (pm_chk pt_cl pt_me 518) = true := by
  exact pt_ok518_0
theorem pt_c906 : pt_m906.2.2.2.2.2.2.all (pm_chk pt_cl pt_me 906) = true := by
  exact pt_ok906_0
theorem pt_c903 : pt_m903.2.2.2.2.2.2.all (pm_chk pt_cl pt_me 903) = true := by
  exact pt_ok903_0
theorem pt_c907 : pt_m907.2.2.2.2.2.2.all (pm_chk pt_cl pt_me 907) = true := by
  exact pt_ok907_0
theorem pt_c111 : pt_m111.2.2.2.2.2.2.all (pm_chk pt_cl pt_me 111) = true := by
  exact pt_ok111_0
theorem pt_c149 : pt_m149.2.2.2.2.2.2.all (pm_chk pt_cl pt_me 149) = true := by
  exact pt_ok149_0
theorem pt_c307 : pt_m307.2.2.2.2.2.2.all (pm_chk pt_cl pt_me 307) = true := by
  exact pt_ok307_0
theorem pt_c305 : pt_m305.2.2.2.2.2.2.all (pm_chk pt_cl pt_me 305) = true := by
  show (pt_q305_0 ++ pt_q305_1).all _ = true
  rw [List.all_append, pt_ok305_0, pt_ok305_1]
  rfl
theorem pt_c302 : pt_m302.2.2.2.2.2.2.all (pm_chk pt_cl pt_me 302) = true := by
  show (pt_q302_0 ++ pt_q302_1).all _ = true
  rw [List.all_append, pt_ok302_0, pt_ok302_1]
  rfl
theorem pt_c303 : pt_m303.2.2.2.2.2.2.all (pm_chk pt_cl pt_me 303) = true := by
  exact pt_ok303_0
theorem pt_c1509 : pt_m1509.2.2.2.2.2.2.all (pm_chk pt_cl pt_me 1509) = true := by
  exact pt_ok1509_0
theorem pt_c306 : pt_m306.2.2.2.2.2.2.all (pm_chk pt_cl pt_me 306) = true := by
  show (pt_q306_0 ++ pt_q306_1).all _ = true
  rw [List.all_append, pt_ok306_0, pt_ok306_1]
  rfl
theorem pt_c607 : pt_m607.2.2.2.2.2.2.all (pm_chk pt_cl pt_me 607) = true := by
  exact pt_ok607_0
theorem pt_c608 : pt_m608.2.2.2.2.2.2.all (pm_chk pt_cl pt_me 608) = true := by
  exact pt_ok608_0
theorem pt_c606 : pt_m606.2.2.2.2.2.2.all (pm_chk pt_cl pt_me 606) = true := by
  exact pt_ok606_0
theorem pt_c610 : pt_m610.2.2.2.2.2.2.all (pm_chk pt_cl pt_me 610) = true := by
  show (pt_q610_0 ++ pt_q610_1).all _ = true
  rw [List.all_append, pt_ok610_0, pt_ok610_1]
  rfl
theorem pt_c609 : pt_m609.2.2.2.2.2.2.all (pm_chk pt_cl pt_me 609) = true := by
  exact pt_ok609_0
theorem pt_c604 : pt_m604.2.2.2.2.2.2.all (pm_chk pt_cl pt_me 604) = true := by
  exact pt_ok604_0
theorem pt_c520 : pt_m520.2.2.2.2.2.2.all (pm_chk pt_cl pt_me 520) = true := by
  exact pt_ok520_0
theorem pt_c521 : pt_m521.2.2.2.2.2.2.all (pm_chk pt_cl pt_me 521) = true := by
  exact pt_ok521_0
theorem pt_c524 : pt_m524.2.2.2.2.2.2.all (pm_chk pt_cl pt_me 524) = true := by
  exact pt_ok524_0
theorem pt_c1510 : pt_m1510.2.2.2.2.2.2.all (pm_chk pt_cl pt_me 1510) = true := by
  exact pt_ok1510_0
theorem pt_c525 : pt_m525.2.2.2.2.2.2.all (pm_chk pt_cl pt_me 525) = true := by
  exact pt_ok525_0
theorem pt_c513 : pt_m513.2.2.2.2.2.2.all (pm_chk pt_cl pt_me 513) = true := by
  exact pt_ok513_0
theorem pt_c603 : pt_m603.2.2.2.2.2.2.all (pm_chk pt_cl pt_me 603) = true := by
  exact pt_ok603_0
theorem pt_c519 : pt_m519.2.2.2.2.2.2.all (pm_chk pt_cl pt_me 519) = true := by
  exact pt_ok519_0
theorem pt_c611 : pt_m611.2.2.2.2.2.2.all (pm_chk pt_cl pt_me 611) = true := by
  exact pt_ok611_0
theorem pt_c614 : pt_m614.2.2.2.2.2.2.all (pm_chk pt_cl pt_me 614) = true := by
  exact pt_ok614_0
theorem pt_c615 : pt_m615.2.2.2.2.2.2.all (pm_chk pt_cl pt_me 615) = true := by
  exact pt_ok615_0
theorem pt_c904 : pt_m904.2.2.2.2.2.2.all (pm_chk pt_cl pt_me 904) = true := by
  exact pt_ok904_0
theorem pt_c112 : pt_m112.2.2.2.2.2.2.all (pm_chk pt_cl pt_me 112) = true := by
  exact pt_ok112_0
theorem pt_c113 : pt_m113.2.2.2.2.2.2.all (pm_chk pt_cl pt_me 113) = true := by
  exact pt_ok113_0
theorem pt_c612 : pt_m612.2.2.2.2.2.2.all (pm_chk pt_cl pt_me 612) = true := by
  exact pt_ok612_0
theorem pt_c114 : pt_m114.2.2.2.2.2.2.all (pm_chk pt_cl pt_me 114) = true := by
  exact pt_ok114_0
theorem pt_c605 : pt_m605.2.2.2.2.2.2.all (pm_chk pt_cl pt_me 605) = true := by
  show (pt_q605_0 ++ pt_q605_1).all _ = true
  rw [List.all_append, pt_ok605_0, pt_ok605_1]
  rfl
theorem pt_c115 : pt_m115.2.2.2.2.2.2.all (pm_chk pt_cl pt_me 115) = true := by
  exact pt_ok115_0
theorem pt_c116 : pt_m116.2.2.2.2.2.2.all (pm_chk pt_cl pt_me 116) = true := by
  exact pt_ok116_0
theorem pt_c308 : pt_m308.2.2.2.2.2.2.all (pm_chk pt_cl pt_me 308) = true := by
  exact pt_ok308_0
theorem pt_c117 : pt_m117.2.2.2.2.2.2.all (pm_chk pt_cl pt_me 117) = true := by
  exact pt_ok117_0
theorem pt_c118 : pt_m118.2.2.2.2.2.2.all (pm_chk pt_cl pt_me 118) = true := by
  exact pt_ok118_0
theorem pt_c119 : pt_m119.2.2.2.2.2.2.all (pm_chk pt_cl pt_me 119) = true := by
  exact pt_ok119_0
theorem pt_c526 : pt_m526.2.2.2.2.2.2.all (pm_chk pt_cl pt_me 526) = true := by
  exact pt_ok526_0
theorem pt_c120 : pt_m120.2.2.2.2.2.2.all (pm_chk pt_cl pt_me 120) = true := by
  exact pt_ok120_0
theorem pt_c908 : pt_m908.2.2.2.2.2.2.all (pm_chk pt_cl pt_me 908) = true := by
  exact pt_ok908_0
theorem pt_c802 : pt_m802.2.2.2.2.2.2.all (pm_chk pt_cl pt_me 802) = true := by
  show (pt_q802_0 ++ pt_q802_1).all _ = true
  rw [List.all_append, pt_ok802_0, pt_ok802_1]
  rfl
theorem pt_c803 : pt_m803.2.2.2.2.2.2.all (pm_chk pt_cl pt_me 803) = true := by
  exact pt_ok803_0
theorem pt_c804 : pt_m804.2.2.2.2.2.2.all (pm_chk pt_cl pt_me 804) = true := by
  exact pt_ok804_0
theorem pt_c1511 : pt_m1511.2.2.2.2.2.2.all (pm_chk pt_cl pt_me 1511) = true := by
  exact pt_ok1511_0
theorem pt_c1512 : pt_m1512.2.2.2.2.2.2.all (pm_chk pt_cl pt_me 1512) = true := by
  exact pt_ok1512_0
theorem pt_c121 : pt_m121.2.2.2.2.2.2.all (pm_chk pt_cl pt_me 121) = true := by
  exact pt_ok121_0
theorem pt_c304 : pt_m304.2.2.2.2.2.2.all (pm_chk pt_cl pt_me 304) = true := by
  exact pt_ok304_0
theorem pt_c310 : pt_m310.2.2.2.2.2.2.all (pm_chk pt_cl pt_me 310) = true := by
  exact pt_ok310_0
theorem pt_c309 : pt_m309.2.2.2.2.2.2.all (pm_chk pt_cl pt_me 309) = true := by
  exact pt_ok309_0
theorem pt_c313 : pt_m313.2.2.2.2.2.2.all (pm_chk pt_cl pt_me 313) = true := by
  exact pt_ok313_0
theorem pt_c312 : pt_m312.2.2.2.2.2.2.all (pm_chk pt_cl pt_me 312) = true := by
  exact pt_ok312_0
theorem pt_c311 : pt_m311.2.2.2.2.2.2.all (pm_chk pt_cl pt_me 311) = true := by
  exact pt_ok311_0
theorem pt_c529 : pt_m529.2.2.2.2.2.2.all (pm_chk pt_cl pt_me 529) = true := by
  exact pt_ok529_0
theorem pt_c527 : pt_m527.2.2.2.2.2.2.all (pm_chk pt_cl pt_me 527) = true := by
  exact pt_ok527_0
theorem pt_c528 : pt_m528.2.2.2.2.2.2.all (pm_chk pt_cl pt_me 528) = true := by
  exact pt_ok528_0
theorem pt_c316 : pt_m316.2.2.2.2.2.2.all (pm_chk pt_cl pt_me 316) = true := by
  exact pt_ok316_0
theorem pt_c317 : pt_m317.2.2.2.2.2.2.all (pm_chk pt_cl pt_me 317) = true := by
  exact pt_ok317_0
theorem pt_c318 : pt_m318.2.2.2.2.2.2.all (pm_chk pt_cl pt_me 318) = true := by
  exact pt_ok318_0
theorem pt_c122 : pt_m122.2.2.2.2.2.2.all (pm_chk pt_cl pt_me 122) = true := by
  exact pt_ok122_0
theorem pt_c314 : pt_m314.2.2.2.2.2.2.all (pm_chk pt_cl pt_me 314) = true := by
  exact pt_ok314_0
theorem pt_c123 : pt_m123.2.2.2.2.2.2.all (pm_chk pt_cl pt_me 123) = true := by
  exact pt_ok123_0
theorem pt_c315 : pt_m315.2.2.2.2.2.2.all (pm_chk pt_cl pt_me 315) = true := by
  exact pt_ok315_0
theorem pt_c124 : pt_m124.2.2.2.2.2.2.all (pm_chk pt_cl pt_me 124) = true := by
  exact pt_ok124_0
theorem pt_c125 : pt_m125.2.2.2.2.2.2.all (pm_chk pt_cl pt_me 125) = true := by
  exact pt_ok125_0
theorem pt_c321 : pt_m321.2.2.2.2.2.2.all (pm_chk pt_cl pt_me 321) = true := by
  exact pt_ok321_0
theorem pt_c126 : pt_m126.2.2.2.2.2.2.all (pm_chk pt_cl pt_me 126) = true := by
  exact pt_ok126_0
theorem pt_c324 : pt_m324.2.2.2.2.2.2.all (pm_chk pt_cl pt_me 324) = true := by
  exact pt_ok324_0
theorem pt_c322 : pt_m322.2.2.2.2.2.2.all (pm_chk pt_cl pt_me 322) = true := by
  exact pt_ok322_0
theorem pt_c323 : pt_m323.2.2.2.2.2.2.all (pm_chk pt_cl pt_me 323) = true := by
  exact pt_ok323_0
theorem pt_c325 : pt_m325.2.2.2.2.2.2.all (pm_chk pt_cl pt_me 325) = true := by
  exact pt_ok325_0
theorem pt_c127 : pt_m127.2.2.2.2.2.2.all (pm_chk pt_cl pt_me 127) = true := by
  exact pt_ok127_0
theorem pt_c530 : pt_m530.2.2.2.2.2.2.all (pm_chk pt_cl pt_me 530) = true := by
  exact pt_ok530_0
theorem pt_c128 : pt_m128.2.2.2.2.2.2.all (pm_chk pt_cl pt_me 128) = true := by
  exact pt_ok128_0
theorem pt_c129 : pt_m129.2.2.2.2.2.2.all (pm_chk pt_cl pt_me 129) = true := by
  exact pt_ok129_0
theorem pt_c531 : pt_m531.2.2.2.2.2.2.all (pm_chk pt_cl pt_me 531) = true := by
  exact pt_ok531_0
theorem pt_c532 : pt_m532.2.2.2.2.2.2.all (pm_chk pt_cl pt_me 532) = true := by
  exact pt_ok532_0
theorem pt_c130 : pt_m130.2.2.2.2.2.2.all (pm_chk pt_cl pt_me 130) = true := by
  exact pt_ok130_0
theorem pt_c326 : pt_m326.2.2.2.2.2.2.all (pm_chk pt_cl pt_me 326) = true := by
  exact pt_ok326_0
theorem pt_c131 : pt_m131.2.2.2.2.2.2.all (pm_chk pt_cl pt_me 131) = true := by
  exact pt_ok131_0
theorem pt_c327 : pt_m327.2.2.2.2.2.2.all (pm_chk pt_cl pt_me 327) = true := by
  exact pt_ok327_0
theorem pt_c132 : pt_m132.2.2.2.2.2.2.all (pm_chk pt_cl pt_me 132) = true := by
  exact pt_ok132_0
theorem pt_c328 : pt_m328.2.2.2.2.2.2.all (pm_chk pt_cl pt_me 328) = true := by
  exact pt_ok328_0
theorem pt_c133 : pt_m133.2.2.2.2.2.2.all (pm_chk pt_cl pt_me 133) = true := by
  exact pt_ok133_0
theorem pt_c320 : pt_m320.2.2.2.2.2.2.all (pm_chk pt_cl pt_me 320) = true := by
  exact pt_ok320_0
theorem pt_c134 : pt_m134.2.2.2.2.2.2.all (pm_chk pt_cl pt_me 134) = true := by
  exact pt_ok134_0
theorem pt_c319 : pt_m319.2.2.2.2.2.2.all (pm_chk pt_cl pt_me 319) = true := by
  show (pt_q319_0 ++ pt_q319_1).all _ = true
  rw [List.all_append, pt_ok319_0, pt_ok319_1]
  rfl
theorem pt_c135 : pt_m135.2.2.2.2.2.2.all (pm_chk pt_cl pt_me 135) = true := by
  exact pt_ok135_0
theorem pt_c402 : pt_m402.2.2.2.2.2.2.all (pm_chk pt_cl pt_me 402) = true := by
  exact pt_ok402_0
theorem pt_c403 : pt_m403.2.2.2.2.2.2.all (pm_chk pt_cl pt_me 403) = true := by
  exact pt_ok403_0
theorem pt_c404 : pt_m404.2.2.2.2.2.2.all (pm_chk pt_cl pt_me 404) = true := by
  exact pt_ok404_0
theorem pt_c405 : pt_m405.2.2.2.2.2.2.all (pm_chk pt_cl pt_me 405) = true := by
  exact pt_ok405_0
theorem pt_c406 : pt_m406.2.2.2.2.2.2.all (pm_chk pt_cl pt_me 406) = true := by
  exact pt_ok406_0
theorem pt_c407 : pt_m407.2.2.2.2.2.2.all (pm_chk pt_cl pt_me 407) = true := by
  exact pt_ok407_0
theorem pt_c408 : pt_m408.2.2.2.2.2.2.all (pm_chk pt_cl pt_me 408) = true := by
  exact pt_ok408_0
theorem pt_c409 : pt_m409.2.2.2.2.2.2.all (pm_chk pt_cl pt_me 409) = true := by
  exact pt_ok409_0
theorem pt_c411 : pt_m411.2.2.2.2.2.2.all (pm_chk pt_cl pt_me 411) = true := by
  exact pt_ok411_0
theorem pt_c410 : pt_m410.2.2.2.2.2.2.all (pm_chk pt_cl pt_me 410) = true := by
  exact pt_ok410_0
theorem pt_c136 : pt_m136.2.2.2.2.2.2.all (pm_chk pt_cl pt_me 136) = true := by
  exact pt_ok136_0
theorem pt_c412 : pt_m412.2.2.2.2.2.2.all (pm_chk pt_cl pt_me 412) = true := by
  exact pt_ok412_0
theorem pt_c413 : pt_m413.2.2.2.2.2.2.all (pm_chk pt_cl pt_me 413) = true := by
  exact pt_ok413_0
theorem pt_c137 : pt_m137.2.2.2.2.2.2.all (pm_chk pt_cl pt_me 137) = true := by
  exact pt_ok137_0
theorem pt_c208 : pt_m208.2.2.2.2.2.2.all (pm_chk pt_cl pt_me 208) = true := by
  exact pt_ok208_0
theorem pt_c214 : pt_m214.2.2.2.2.2.2.all (pm_chk pt_cl pt_me 214) = true := by
  exact pt_ok214_0
theorem pt_c215 : pt_m215.2.2.2.2.2.2.all (pm_chk pt_cl pt_me 215) = true := by
  exact pt_ok215_0
theorem pt_c138 : pt_m138.2.2.2.2.2.2.all (pm_chk pt_cl pt_me 138) = true := by
  exact pt_ok138_0
theorem pt_c204 : pt_m204.2.2.2.2.2.2.all (pm_chk pt_cl pt_me 204) = true := by
  exact pt_ok204_0
theorem pt_c139 : pt_m139.2.2.2.2.2.2.all (pm_chk pt_cl pt_me 139) = true := by
  exact pt_ok139_0
theorem pt_c203 : pt_m203.2.2.2.2.2.2.all (pm_chk pt_cl pt_me 203) = true := by
  exact pt_ok203_0
theorem pt_c212 : pt_m212.2.2.2.2.2.2.all (pm_chk pt_cl pt_me 212) = true := by
  show (pt_q212_0 ++ pt_q212_1).all _ = true
  rw [List.all_append, pt_ok212_0, pt_ok212_1]
  rfl
theorem pt_c213 : pt_m213.2.2.2.2.2.2.all (pm_chk pt_cl pt_me 213) = true := by
  exact pt_ok213_0
theorem pt_c140 : pt_m140.2.2.2.2.2.2.all (pm_chk pt_cl pt_me 140) = true := by
  exact pt_ok140_0
theorem pt_c207 : pt_m207.2.2.2.2.2.2.all (pm_chk pt_cl pt_me 207) = true := by
  exact pt_ok207_0
theorem pt_c141 : pt_m141.2.2.2.2.2.2.all (pm_chk pt_cl pt_me 141) = true := by
  exact pt_ok141_0
theorem pt_c210 : pt_m210.2.2.2.2.2.2.all (pm_chk pt_cl pt_me 210) = true := by
  exact pt_ok210_0
theorem pt_c211 : pt_m211.2.2.2.2.2.2.all (pm_chk pt_cl pt_me 211) = true := by
  exact pt_ok211_0
theorem pt_c142 : pt_m142.2.2.2.2.2.2.all (pm_chk pt_cl pt_me 142) = true := by
  exact pt_ok142_0
theorem pt_c209 : pt_m209.2.2.2.2.2.2.all (pm_chk pt_cl pt_me 209) = true := by
  exact pt_ok209_0
theorem pt_c522 : pt_m522.2.2.2.2.2.2.all (pm_chk pt_cl pt_me 522) = true := by
  exact pt_ok522_0
theorem pt_c143 : pt_m143.2.2.2.2.2.2.all (pm_chk pt_cl pt_me 143) = true := by
  exact pt_ok143_0
theorem pt_c514 : pt_m514.2.2.2.2.2.2.all (pm_chk pt_cl pt_me 514) = true := by
  exact pt_ok514_0
theorem pt_c144 : pt_m144.2.2.2.2.2.2.all (pm_chk pt_cl pt_me 144) = true := by
  exact pt_ok144_0
theorem pt_c145 : pt_m145.2.2.2.2.2.2.all (pm_chk pt_cl pt_me 145) = true := by
  exact pt_ok145_0
theorem pt_c216 : pt_m216.2.2.2.2.2.2.all (pm_chk pt_cl pt_me 216) = true := by
  exact pt_ok216_0
theorem pt_c146 : pt_m146.2.2.2.2.2.2.all (pm_chk pt_cl pt_me 146) = true := by
  exact pt_ok146_0
theorem pt_c147 : pt_m147.2.2.2.2.2.2.all (pm_chk pt_cl pt_me 147) = true := by
  exact pt_ok147_0
theorem pt_c613 : pt_m613.2.2.2.2.2.2.all (pm_chk pt_cl pt_me 613) = true := by
  exact pt_ok613_0
theorem pt_c523 : pt_m523.2.2.2.2.2.2.all (pm_chk pt_cl pt_me 523) = true := by
  exact pt_ok523_0
theorem pt_c148 : pt_m148.2.2.2.2.2.2.all (pm_chk pt_cl pt_me 148) = true := by
  exact pt_ok148_0
theorem pt_c1201 : pt_m1201.2.2.2.2.2.2.all (pm_chk pt_cl pt_me 1201) = true := by
  show (pt_q1201_0 ++ pt_q1201_1 ++ pt_q1201_2).all _ = true
  rw [List.all_append, List.all_append, pt_ok1201_0, pt_ok1201_1, pt_ok1201_2]
  rfl
theorem pt_c1222 : pt_m1222.2.2.2.2.2.2.all (pm_chk pt_cl pt_me 1222) = true := by
  show (pt_q1222_0 ++ pt_q1222_1).all _ = true
  rw [List.all_append, pt_ok1222_0, pt_ok1222_1]
  rfl
theorem pt_c1238 : pt_m1238.2.2.2.2.2.2.all (pm_chk pt_cl pt_me 1238) = true := by
  show (pt_q1238_0 ++ pt_q1238_1 ++ pt_q1238_2).all _ = true
  rw [List.all_append, List.all_append, pt_ok1238_0, pt_ok1238_1, pt_ok1238_2]
  rfl
theorem pt_c1204 : pt_m1204.2.2.2.2.2.2.all (pm_chk pt_cl pt_me 1204) = true := by
  exact pt_ok1204_0
theorem pt_c1207 : pt_m1207.2.2.2.2.2.2.all (pm_chk pt_cl pt_me 1207) = true := by
  exact pt_ok1207_0
theorem pt_c1208 : pt_m1208.2.2.2.2.2.2.all (pm_chk pt_cl pt_me 1208) = true := by
  exact pt_ok1208_0
theorem pt_c1209 : pt_m1209.2.2.2.2.2.2.all (pm_chk pt_cl pt_me 1209) = true := by
  exact pt_ok1209_0
theorem pt_c1202 : pt_m1202.2.2.2.2.2.2.all (pm_chk pt_cl pt_me 1202) = true := by
  exact pt_ok1202_0
theorem pt_c1237 : pt_m1237.2.2.2.2.2.2.all (pm_chk pt_cl pt_me 1237) = true := by
  exact pt_ok1237_0
theorem pt_c1213 : pt_m1213.2.2.2.2.2.2.all (pm_chk pt_cl pt_me 1213) = true := by
  show (pt_q1213_0 ++ pt_q1213_1 ++ pt_q1213_2).all _ = true
  rw [List.all_append, List.all_append, pt_ok1213_0, pt_ok1213_1, pt_ok1213_2]
  rfl
theorem pt_c1210 : pt_m1210.2.2.2.2.2.2.all (pm_chk pt_cl pt_me 1210) = true := by
  exact pt_ok1210_0
theorem pt_c1211 : pt_m1211.2.2.2.2.2.2.all (pm_chk pt_cl pt_me 1211) = true := by
  exact pt_ok1211_0
theorem pt_c1212 : pt_m1212.2.2.2.2.2.2.all (pm_chk pt_cl pt_me 1212) = true := by
  exact pt_ok1212_0
theorem pt_c1215 : pt_m1215.2.2.2.2.2.2.all (pm_chk pt_cl pt_me 1215) = true := by
  exact pt_ok1215_0
theorem pt_c1236 : pt_m1236.2.2.2.2.2.2.all (pm_chk pt_cl pt_me 1236) = true := by
  show (pt_q1236_0 ++ pt_q1236_1).all _ = true
  rw [List.all_append, pt_ok1236_0, pt_ok1236_1]
  rfl
theorem pt_c1216 : pt_m1216.2.2.2.2.2.2.all (pm_chk pt_cl pt_me 1216) = true := by
  exact pt_ok1216_0
theorem pt_c1231 : pt_m1231.2.2.2.2.2.2.all (pm_chk pt_cl pt_me 1231) = true := by
  exact pt_ok1231_0
theorem pt_c1226 : pt_m1226.2.2.2.2.2.2.all (pm_chk pt_cl pt_me 1226) = true := by
  exact pt_ok1226_0
theorem pt_c1205 : pt_m1205.2.2.2.2.2.2.all (pm_chk pt_cl pt_me 1205) = true := by
  exact pt_ok1205_0
theorem pt_c1214 : pt_m1214.2.2.2.2.2.2.all (pm_chk pt_cl pt_me 1214) = true := by
  exact pt_ok1214_0
theorem pt_c1221 : pt_m1221.2.2.2.2.2.2.all (pm_chk pt_cl pt_me 1221) = true := by
  exact pt_ok1221_0
theorem pt_c1232 : pt_m1232.2.2.2.2.2.2.all (pm_chk pt_cl pt_me 1232) = true := by
  exact pt_ok1232_0
theorem pt_c1233 : pt_m1233.2.2.2.2.2.2.all (pm_chk pt_cl pt_me 1233) = true := by
  exact pt_ok1233_0
theorem pt_c1234 : pt_m1234.2.2.2.2.2.2.all (pm_chk pt_cl pt_me 1234) = true := by
  exact pt_ok1234_0
theorem pt_c1235 : pt_m1235.2.2.2.2.2.2.all (pm_chk pt_cl pt_me 1235) = true := by
  exact pt_ok1235_0
theorem pt_c1227 : pt_m1227.2.2.2.2.2.2.all (pm_chk pt_cl pt_me 1227) = true := by
  exact pt_ok1227_0
theorem pt_c1224 : pt_m1224.2.2.2.2.2.2.all (pm_chk pt_cl pt_me 1224) = true := by
  exact pt_ok1224_0
theorem pt_c1220 : pt_m1220.2.2.2.2.2.2.all (pm_chk pt_cl pt_me 1220) = true := by
  exact pt_ok1220_0
theorem pt_c1217 : pt_m1217.2.2.2.2.2.2.all (pm_chk pt_cl pt_me 1217) = true := by
  show (pt_q1217_0 ++ pt_q1217_1).all _ = true
  rw [List.all_append, pt_ok1217_0, pt_ok1217_1]
  rfl
theorem pt_c1223 : pt_m1223.2.2.2.2.2.2.all (pm_chk pt_cl pt_me 1223) = true := by
  exact pt_ok1223_0
theorem pt_c1228 : pt_m1228.2.2.2.2.2.2.all (pm_chk pt_cl pt_me 1228) = true := by
  show (pt_q1228_0 ++ pt_q1228_1).all _ = true
  rw [List.all_append, pt_ok1228_0, pt_ok1228_1]
  rfl
theorem pt_c1219 : pt_m1219.2.2.2.2.2.2.all (pm_chk pt_cl pt_me 1219) = true := by
  exact pt_ok1219_0
theorem pt_c1229 : pt_m1229.2.2.2.2.2.2.all (pm_chk pt_cl pt_me 1229) = true := by
  exact pt_ok1229_0
theorem pt_c1225 : pt_m1225.2.2.2.2.2.2.all (pm_chk pt_cl pt_me 1225) = true := by
  exact pt_ok1225_0
theorem pt_c1230 : pt_m1230.2.2.2.2.2.2.all (pm_chk pt_cl pt_me 1230) = true := by
  exact pt_ok1230_0
theorem pt_c1218 : pt_m1218.2.2.2.2.2.2.all (pm_chk pt_cl pt_me 1218) = true := by
  exact pt_ok1218_0
theorem pt_c1239 : pt_m1239.2.2.2.2.2.2.all (pm_chk pt_cl pt_me 1239) = true := by
  exact pt_ok1239_0
theorem pt_c1241 : pt_m1241.2.2.2.2.2.2.all (pm_chk pt_cl pt_me 1241) = true := by
  exact pt_ok1241_0
theorem pt_c1251 : pt_m1251.2.2.2.2.2.2.all (pm_chk pt_cl pt_me 1251) = true := by
  exact pt_ok1251_0
theorem pt_c1246 : pt_m1246.2.2.2.2.2.2.all (pm_chk pt_cl pt_me 1246) = true := by
  exact pt_ok1246_0
theorem pt_c1242 : pt_m1242.2.2.2.2.2.2.all (pm_chk pt_cl pt_me 1242) = true := by
  exact pt_ok1242_0
theorem pt_c1250 : pt_m1250.2.2.2.2.2.2.all (pm_chk pt_cl pt_me 1250) = true := by
  exact pt_ok1250_0
theorem pt_c1203 : pt_m1203.2.2.2.2.2.2.all (pm_chk pt_cl pt_me 1203) = true := by
  exact pt_ok1203_0
theorem pt_c1252 : pt_m1252.2.2.2.2.2.2.all (pm_chk pt_cl pt_me 1252) = true := by
  exact pt_ok1252_0
theorem pt_c1247 : pt_m1247.2.2.2.2.2.2.all (pm_chk pt_cl pt_me 1247) = true := by
  exact pt_ok1247_0
theorem pt_c1249 : pt_m1249.2.2.2.2.2.2.all (pm_chk pt_cl pt_me 1249) = true := by
  exact pt_ok1249_0
theorem pt_c1253 : pt_m1253.2.2.2.2.2.2.all (pm_chk pt_cl pt_me 1253) = true := by
  exact pt_ok1253_0
theorem pt_c1245 : pt_m1245.2.2.2.2.2.2.all (pm_chk pt_cl pt_me 1245) = true := by
  exact pt_ok1245_0
theorem pt_c1244 : pt_m1244.2.2.2.2.2.2.all (pm_chk pt_cl pt_me 1244) = true := by
  exact pt_ok1244_0
theorem pt_c1243 : pt_m1243.2.2.2.2.2.2.all (pm_chk pt_cl pt_me 1243) = true := by
  exact pt_ok1243_0
theorem pt_c1257 : pt_m1257.2.2.2.2.2.2.all (pm_chk pt_cl pt_me 1257) = true := by
  exact pt_ok1257_0
theorem pt_c1248 : pt_m1248.2.2.2.2.2.2.all (pm_chk pt_cl pt_me 1248) = true := by
  exact pt_ok1248_0
theorem pt_c1256 : pt_m1256.2.2.2.2.2.2.all (pm_chk pt_cl pt_me 1256) = true := by
  exact pt_ok1256_0
theorem pt_c1255 : pt_m1255.2.2.2.2.2.2.all (pm_chk pt_cl pt_me 1255) = true := by
  exact pt_ok1255_0
theorem pt_c1254 : pt_m1254.2.2.2.2.2.2.all (pm_chk pt_cl pt_me 1254) = true := by
  exact pt_ok1254_0
theorem pt_c1258 : pt_m1258.2.2.2.2.2.2.all (pm_chk pt_cl pt_me 1258) = true := by
  exact pt_ok1258_0
theorem pt_c1268 : pt_m1268.2.2.2.2.2.2.all (pm_chk pt_cl pt_me 1268) = true := by
  exact pt_ok1268_0
theorem pt_c1266 : pt_m1266.2.2.2.2.2.2.all (pm_chk pt_cl pt_me 1266) = true := by
  show (pt_q1266_0 ++ pt_q1266_1).all _ = true
  rw [List.all_append, pt_ok1266_0, pt_ok1266_1]
  rfl
theorem pt_c1260 : pt_m1260.2.2.2.2.2.2.all (pm_chk pt_cl pt_me 1260) = true := by
  show (pt_q1260_0 ++ pt_q1260_1).all _ = true
  rw [List.all_append, pt_ok1260_0, pt_ok1260_1]
  rfl
theorem pt_c1259 : pt_m1259.2.2.2.2.2.2.all (pm_chk pt_cl pt_me 1259) = true := by
  exact pt_ok1259_0
theorem pt_c1206 : pt_m1206.2.2.2.2.2.2.all (pm_chk pt_cl pt_me 1206) = true := by
  exact pt_ok1206_0
theorem pt_c1261 : pt_m1261.2.2.2.2.2.2.all (pm_chk pt_cl pt_me 1261) = true := by
  exact pt_ok1261_0
theorem pt_c1262 : pt_m1262.2.2.2.2.2.2.all (pm_chk pt_cl pt_me 1262) = true := by
  exact pt_ok1262_0
theorem pt_c1265 : pt_m1265.2.2.2.2.2.2.all (pm_chk pt_cl pt_me 1265) = true := by
  exact pt_ok1265_0
theorem pt_c1263 : pt_m1263.2.2.2.2.2.2.all (pm_chk pt_cl pt_me 1263) = true := by
  exact pt_ok1263_0
theorem pt_c1264 : pt_m1264.2.2.2.2.2.2.all (pm_chk pt_cl pt_me 1264) = true := by
  exact pt_ok1264_0
theorem pt_c1269 : pt_m1269.2.2.2.2.2.2.all (pm_chk pt_cl pt_me 1269) = true := by
  exact pt_ok1269_0
theorem pt_c1267 : pt_m1267.2.2.2.2.2.2.all (pm_chk pt_cl pt_me 1267) = true := by
  exact pt_ok1267_0
theorem pt_c1270 : pt_m1270.2.2.2.2.2.2.all (pm_chk pt_cl pt_me 1270) = true := by
  exact pt_ok1270_0
theorem pt_c1272 : pt_m1272.2.2.2.2.2.2.all (pm_chk pt_cl pt_me 1272) = true := by
  exact pt_ok1272_0
theorem pt_c1271 : pt_m1271.2.2.2.2.2.2.all (pm_chk pt_cl pt_me 1271) = true := by
  exact pt_ok1271_0
theorem pt_c1274 : pt_m1274.2.2.2.2.2.2.all (pm_chk pt_cl pt_me 1274) = true := by
  show (pt_q1274_0 ++ pt_q1274_1).all _ = true
  rw [List.all_append, pt_ok1274_0, pt_ok1274_1]
  rfl
theorem pt_c1273 : pt_m1273.2.2.2.2.2.2.all (pm_chk pt_cl pt_me 1273) = true := by
  exact pt_ok1273_0
theorem pt_c1277 : pt_m1277.2.2.2.2.2.2.all (pm_chk pt_cl pt_me 1277) = true := by
  show (pt_q1277_0 ++ pt_q1277_1).all _ = true
  rw [List.all_append, pt_ok1277_0, pt_ok1277_1]
  rfl
theorem pt_c1276 : pt_m1276.2.2.2.2.2.2.all (pm_chk pt_cl pt_me 1276) = true := by
  show (pt_q1276_0 ++ pt_q1276_1).all _ = true
  rw [List.all_append, pt_ok1276_0, pt_ok1276_1]
  rfl
theorem pt_c1275 : pt_m1275.2.2.2.2.2.2.all (pm_chk pt_cl pt_me 1275) = true := by
  exact pt_ok1275_0
theorem pt_c1278 : pt_m1278.2.2.2.2.2.2.all (pm_chk pt_cl pt_me 1278) = true := by
  exact pt_ok1278_0
theorem pt_c1279 : pt_m1279.2.2.2.2.2.2.all (pm_chk pt_cl pt_me 1279) = true := by
  show (pt_q1279_0 ++ pt_q1279_1).all _ = true
  rw [List.all_append, pt_ok1279_0, pt_ok1279_1]
  rfl
theorem pt_c1281 : pt_m1281.2.2.2.2.2.2.all (pm_chk pt_cl pt_me 1281) = true := by
  exact pt_ok1281_0
theorem pt_c1280 : pt_m1280.2.2.2.2.2.2.all (pm_chk pt_cl pt_me 1280) = true := by
  exact pt_ok1280_0
theorem pt_c1292 : pt_m1292.2.2.2.2.2.2.all (pm_chk pt_cl pt_me 1292) = true := by
  exact pt_ok1292_0
theorem pt_c1283 : pt_m1283.2.2.2.2.2.2.all (pm_chk pt_cl pt_me 1283) = true := by
  show (pt_q1283_0 ++ pt_q1283_1).all _ = true
  rw [List.all_append, pt_ok1283_0, pt_ok1283_1]
  rfl
theorem pt_c1282 : pt_m1282.2.2.2.2.2.2.all (pm_chk pt_cl pt_me 1282) = true := by
  exact pt_ok1282_0
theorem pt_c1288 : pt_m1288.2.2.2.2.2.2.all (pm_chk pt_cl pt_me 1288) = true := by
  exact pt_ok1288_0
theorem pt_c1287 : pt_m1287.2.2.2.2.2.2.all (pm_chk pt_cl pt_me 1287) = true := by
  exact pt_ok1287_0
theorem pt_c1286 : pt_m1286.2.2.2.2.2.2.all (pm_chk pt_cl pt_me 1286) = true := by
  exact pt_ok1286_0
theorem pt_c1284 : pt_m1284.2.2.2.2.2.2.all (pm_chk pt_cl pt_me 1284) = true := by
  exact pt_ok1284_0
theorem pt_c1285 : pt_m1285.2.2.2.2.2.2.all (pm_chk pt_cl pt_me 1285) = true := by
  exact pt_ok1285_0
theorem pt_c1293 : pt_m1293.2.2.2.2.2.2.all (pm_chk pt_cl pt_me 1293) = true := by
  exact pt_ok1293_0
theorem pt_c1291 : pt_m1291.2.2.2.2.2.2.all (pm_chk pt_cl pt_me 1291) = true := by
  exact pt_ok1291_0
theorem pt_c1289 : pt_m1289.2.2.2.2.2.2.all (pm_chk pt_cl pt_me 1289) = true := by
  exact pt_ok1289_0
theorem pt_c1290 : pt_m1290.2.2.2.2.2.2.all (pm_chk pt_cl pt_me 1290) = true := by
  show (pt_q1290_0 ++ pt_q1290_1).all _ = true
  rw [List.all_append, pt_ok1290_0, pt_ok1290_1]
  rfl
theorem pt_c1294 : pt_m1294.2.2.2.2.2.2.all (pm_chk pt_cl pt_me 1294) = true := by
  exact pt_ok1294_0
theorem pt_c1295 : pt_m1295.2.2.2.2.2.2.all (pm_chk pt_cl pt_me 1295) = true := by
  exact pt_ok1295_0
theorem pt_c1296 : pt_m1296.2.2.2.2.2.2.all (pm_chk pt_cl pt_me 1296) = true := by
  exact pt_ok1296_0
theorem pt_c1298 : pt_m1298.2.2.2.2.2.2.all (pm_chk pt_cl pt_me 1298) = true := by
  exact pt_ok1298_0
theorem pt_c1297 : pt_m1297.2.2.2.2.2.2.all (pm_chk pt_cl pt_me 1297) = true := by
  exact pt_ok1297_0
theorem pt_c1300 : pt_m1300.2.2.2.2.2.2.all (pm_chk pt_cl pt_me 1300) = true := by
  exact pt_ok1300_0
theorem pt_c1299 : pt_m1299.2.2.2.2.2.2.all (pm_chk pt_cl pt_me 1299) = true := by
  exact pt_ok1299_0
theorem pt_c1301 : pt_m1301.2.2.2.2.2.2.all (pm_chk pt_cl pt_me 1301) = true := by
  exact pt_ok1301_0
theorem pt_c1302 : pt_m1302.2.2.2.2.2.2.all (pm_chk pt_cl pt_me 1302) = true := by
  exact pt_ok1302_0
theorem pt_c1303 : pt_m1303.2.2.2.2.2.2.all (pm_chk pt_cl pt_me 1303) = true := by
  exact pt_ok1303_0
theorem pt_c1304 : pt_m1304.2.2.2.2.2.2.all (pm_chk pt_cl pt_me 1304) = true := by
  exact pt_ok1304_0
theorem pt_c1306 : pt_m1306.2.2.2.2.2.2.all (pm_chk pt_cl pt_me 1306) = true := by
  exact pt_ok1306_0
theorem pt_c1305 : pt_m1305.2.2.2.2.2.2.all (pm_chk pt_cl pt_me 1305) = true := by
  exact pt_ok1305_0
theorem pt_c1307 : pt_m1307.2.2.2.2.2.2.all (pm_chk pt_cl pt_me 1307) = true := by
  exact pt_ok1307_0
theorem pt_c1308 : pt_m1308.2.2.2.2.2.2.all (pm_chk pt_cl pt_me 1308) = true := by
  exact pt_ok1308_0
theorem pt_c1309 : pt_m1309.2.2.2.2.2.2.all (pm_chk pt_cl pt_me 1309) = true := by
  show (pt_q1309_0 ++ pt_q1309_1).all _ = true
  rw [List.all_append, pt_ok1309_0, pt_ok1309_1]
  rfl
theorem pt_c1316 : pt_m1316.2.2.2.2.2.2.all (pm_chk pt_cl pt_me 1316) = true := by
  exact pt_ok1316_0
theorem pt_c1315 : pt_m1315.2.2.2.2.2.2.all (pm_chk pt_cl pt_me 1315) = true := by
  exact pt_ok1315_0
theorem pt_c1310 : pt_m1310.2.2.2.2.2.2.all (pm_chk pt_cl pt_me 1310) = true := by
  exact pt_ok1310_0
theorem pt_c1314 : pt_m1314.2.2.2.2.2.2.all (pm_chk pt_cl pt_me 1314) = true := by
  exact pt_ok1314_0
theorem pt_c1311 : pt_m1311.2.2.2.2.2.2.all (pm_chk pt_cl pt_me 1311) = true := by
  exact pt_ok1311_0
theorem pt_c1313 : pt_m1313.2.2.2.2.2.2.all (pm_chk pt_cl pt_me 1313) = true := by
  exact pt_ok1313_0
theorem pt_c1312 : pt_m1312.2.2.2.2.2.2.all (pm_chk pt_cl pt_me 1312) = true := by
  exact pt_ok1312_0
theorem pt_c1317 : pt_m1317.2.2.2.2.2.2.all (pm_chk pt_cl pt_me 1317) = true := by
  exact pt_ok1317_0
theorem pt_c1318 : pt_m1318.2.2.2.2.2.2.all (pm_chk pt_cl pt_me 1318) = true := by
  exact pt_ok1318_0
theorem pt_c1240 : pt_m1240.2.2.2.2.2.2.all (pm_chk pt_cl pt_me 1240) = true := by
  exact pt_ok1240_0
theorem pt_c1319 : pt_m1319.2.2.2.2.2.2.all (pm_chk pt_cl pt_me 1319) = true := by
  exact pt_ok1319_0
theorem pt_c1321 : pt_m1321.2.2.2.2.2.2.all (pm_chk pt_cl pt_me 1321) = true := by
  exact pt_ok1321_0
theorem pt_c1320 : pt_m1320.2.2.2.2.2.2.all (pm_chk pt_cl pt_me 1320) = true := by
  show (pt_q1320_0 ++ pt_q1320_1).all _ = true
  rw [List.all_append, pt_ok1320_0, pt_ok1320_1]
  rfl
theorem pt_c1323 : pt_m1323.2.2.2.2.2.2.all (pm_chk pt_cl pt_me 1323) = true := by
  exact pt_ok1323_0
theorem pt_c1322 : pt_m1322.2.2.2.2.2.2.all (pm_chk pt_cl pt_me 1322) = true := by
  exact pt_ok1322_0
theorem pt_c1325 : pt_m1325.2.2.2.2.2.2.all (pm_chk pt_cl pt_me 1325) = true := by
  exact pt_ok1325_0
theorem pt_c1324 : pt_m1324.2.2.2.2.2.2.all (pm_chk pt_cl pt_me 1324) = true := by
  exact pt_ok1324_0
theorem pt_c1326 : pt_m1326.2.2.2.2.2.2.all (pm_chk pt_cl pt_me 1326) = true := by
  show (pt_q1326_0 ++ pt_q1326_1).all _ = true
  rw [List.all_append, pt_ok1326_0, pt_ok1326_1]
  rfl
theorem pt_c1327 : pt_m1327.2.2.2.2.2.2.all (pm_chk pt_cl pt_me 1327) = true := by
  exact pt_ok1327_0
theorem pt_c1328 : pt_m1328.2.2.2.2.2.2.all (pm_chk pt_cl pt_me 1328) = true := by
  exact pt_ok1328_0
theorem pt_c1329 : pt_m1329.2.2.2.2.2.2.all (pm_chk pt_cl pt_me 1329) = true := by
  show (pt_q1329_0 ++ pt_q1329_1 ++ pt_q1329_2 ++ pt_q1329_3).all _ = true
  rw [List.all_append, List.all_append, List.all_append, pt_ok1329_0, pt_ok1329_1, pt_ok1329_2, pt_ok1329_3]
  rfl
theorem pt_c1 : pt_m1.2.2.2.2.2.2.all (pm_chk pt_cl pt_me 1) = true := by
  show (pt_q1_0 ++ pt_q1_1 ++ pt_q1_2 ++ pt_q1_3 ++ pt_q1_4 ++ pt_q1_5 ++ pt_q1_6 ++ pt_q1_7 ++ pt_q1_8 ++ pt_q1_9 ++ pt_q1_10 ++ pt_q1_11 ++ pt_q1_12 ++ pt_q1_13 ++ pt_q1_14 ++ pt_q1_15 ++ pt_q1_16 ++ pt_q1_17).all _ = true
  rw [List.all_append, List.all_append, List.all_append, List.all_append, List.all_append, List.all_append, List.all_append, List.all_append, List.all_append, List.all_append, List.all_append, List.all_append, List.all_append, List.all_append, List.all_append, List.all_append, List.all_append, pt_ok1_0, pt_ok1_1, pt_ok1_2, pt_ok1_3, pt_ok1_4, pt_ok1_5, pt_ok1_6, pt_ok1_7, pt_ok1_8, pt_ok1_9, pt_ok1_10, pt_ok1_11, pt_ok1_12, pt_ok1_13, pt_ok1_14, pt_ok1_15, pt_ok1_16, pt_ok1_17]
  rfl
theorem pt_pg0 : ∀ b, (pt_p0.getD b pt_m0).2.2.2.2.2.2.all (pm_chk pt_cl pt_me (0 + b)) = true := fun b => match b with
  | 0 => rfl
  | 1 => pt_c1
  | _ + 2 => rfl
theorem pt_pg1 : ∀ b, (pt_p1.getD b pt_m0).2.2.2.2.2.2.all (pm_chk pt_cl pt_me (100 + b)) = true := fun b => match b with
  | 0 => rfl
  | 1 => pt_c101
  | 2 => pt_c102
  | 3 => pt_c103
  | 4 => pt_c104
  | 5 => pt_c105
  | 6 => pt_c106
  | 7 => pt_c107
  | 8 => pt_c108
  | 9 => pt_c109
  | 10 => pt_c110
  | 11 => pt_c111
  | 12 => pt_c112
  | 13 => pt_c113
  | 14 => pt_c114
  | 15 => pt_c115
  | 16 => pt_c116
  | 17 => pt_c117
  | 18 => pt_c118
  | 19 => pt_c119
  | 20 => pt_c120
  | 21 => pt_c121
  | 22 => pt_c122
  | 23 => pt_c123
  | 24 => pt_c124
  | 25 => pt_c125
  | 26 => pt_c126
  | 27 => pt_c127
  | 28 => pt_c128
  | 29 => pt_c129
  | 30 => pt_c130
  | 31 => pt_c131
  | 32 => pt_c132
  | 33 => pt_c133
  | 34 => pt_c134
  | 35 => pt_c135
  | 36 => pt_c136
  | 37 => pt_c137
  | 38 => pt_c138
  | 39 => pt_c139
  | 40 => pt_c140
  | 41 => pt_c141
  | 42 => pt_c142
  | 43 => pt_c143
  | 44 => pt_c144
  | 45 => pt_c145
  | 46 => pt_c146
  | 47 => pt_c147
  | 48 => pt_c148
  | 49 => pt_c149
  | 50 => pt_c150
  | 51 => pt_c151
  | _ + 52 => rfl
theorem pt_pg2 : ∀ b, (pt_p2.getD b pt_m0).2.2.2.2.2.2.all (pm_chk pt_cl pt_me (200 + b)) = true := fun b => match b with
  | 0 => rfl
  | 1 => pt_c201
  | 2 => pt_c202
  | 3 => pt_c203
  | 4 => pt_c204
  | 5 => pt_c205
  | 6 => pt_c206
  | 7 => pt_c207
  | 8 => pt_c208
  | 9 => pt_c209
  | 10 => pt_c210
  | 11 => pt_c211
  | 12 => pt_c212
  | 13 => pt_c213
  | 14 => pt_c214
  | 15 => pt_c215
  | 16 => pt_c216
  | _ + 17 => rfl
theorem pt_pg3 : ∀ b, (pt_p3.getD b pt_m0).2.2.2.2.2.2.all (pm_chk pt_cl pt_me (300 + b)) = true := fun b => match b with
  | 0 => rfl
  | 1 => pt_c301
  | 2 => pt_c302
  | 3 => pt_c303
  | 4 => pt_c304
  | 5 => pt_c305
  | 6 => pt_c306
  | 7 => pt_c307
  | 8 => pt_c308
  | 9 => pt_c309
  | 10 => pt_c310
  | 11 => pt_c311
  | 12 => pt_c312
  | 13 => pt_c313
  | 14 => pt_c314
  | 15 => pt_c315
  | 16 => pt_c316
  | 17 => pt_c317
  | 18 => pt_c318
  | 19 => pt_c319
  | 20 => pt_c320
  | 21 => pt_c321
  | 22 => pt_c322
  | 23 => pt_c323
  | 24 => pt_c324
  | 25 => pt_c325
  | 26 => pt_c326
  | 27 => pt_c327
  | 28 => pt_c328
  | _ + 29 => rfl
theorem pt_pg4 : ∀ b, (pt_p4.getD b pt_m0).2.2.2.2.2.2.all (pm_chk pt_cl pt_me (400 + b)) = true := fun b => match b with
  | 0 => rfl
  | 1 => pt_c401
  | 2 => pt_c402
  | 3 => pt_c403
  | 4 => pt_c404
  | 5 => pt_c405
  | 6 => pt_c406
  | 7 => pt_c407
  | 8 => pt_c408
  | 9 => pt_c409
  | 10 => pt_c410
  | 11 => pt_c411
  | 12 => pt_c412
  | 13 => pt_c413
  | _ + 14 => rfl
theorem pt_pg5 : ∀ b, (pt_p5.getD b pt_m0).2.2.2.2.2.2.all (pm_chk pt_cl pt_me (500 + b)) = true := fun b => match b with
  | 0 => rfl
  | 1 => pt_c501
  | 2 => pt_c502
  | 3 => pt_c503
  | 4 => pt_c504
  | 5 => pt_c505
  | 6 => pt_c506
  | 7 => pt_c507
  | 8 => pt_c508
  | 9 => pt_c509
  | 10 => pt_c510
  | 11 => pt_c511
  | 12 => pt_c512
  | 13 => pt_c513
  | 14 => pt_c514
  | 15 => pt_c515
  | 16 => pt_c516
  | 17 => pt_c517
  | 18 => pt_c518
  | 19 => pt_c519
  | 20 => pt_c520
  | 21 => pt_c521
  | 22 => pt_c522
  | 23 => pt_c523
  | 24 => pt_c524
  | 25 => pt_c525
  | 26 => pt_c526
  | 27 => pt_c527
  | 28 => pt_c528
  | 29 => pt_c529
  | 30 => pt_c530
  | 31 => pt_c531
  | 32 => pt_c532
  | _ + 33 => rfl
theorem pt_pg6 : ∀ b, (pt_p6.getD b pt_m0).2.2.2.2.2.2.all (pm_chk pt_cl pt_me (600 + b)) = true := fun b => match b with
  | 0 => rfl
  | 1 => pt_c601
  | 2 => pt_c602
  | 3 => pt_c603
  | 4 => pt_c604
  | 5 => pt_c605
  | 6 => pt_c606
  | 7 => pt_c607
  | 8 => pt_c608
  | 9 => pt_c609
  | 10 => pt_c610
  | 11 => pt_c611
  | 12 => pt_c612
  | 13 => pt_c613
  | 14 => pt_c614
  | 15 => pt_c615
  | _ + 16 => rfl
theorem pt_pg7 : ∀ b, (pt_p7.getD b pt_m0).2.2.2.2.2.2.all (pm_chk pt_cl pt_me (700 + b)) = true := fun b => match b with
  | 0 => rfl
  | 1 => pt_c701
  | 2 => pt_c702
  | 3 => pt_c703
  | 4 => pt_c704
  | 5 => pt_c705
  | 6 => pt_c706
  | 7 => pt_c707
  | 8 => pt_c708
  | 9 => pt_c709
  | 10 => pt_c710
  | 11 => pt_c711
  | 12 => pt_c712
  | 13 => pt_c713
  | 14 => pt_c714
  | 15 => pt_c715
  | 16 => pt_c716
  | 17 => pt_c717
  | 18 => pt_c718
  | 19 => pt_c719
  | 20 => pt_c720
  | 21 => pt_c721
  | 22 => pt_c722
  | 23 => pt_c723
  | 24 => pt_c724
  | 25 => pt_c725
  | 26 => pt_c726
  | 27 => pt_c727
  | _ + 28 => rfl
theorem pt_pg8 : ∀ b, (pt_p8.getD b pt_m0).2.2.2.2.2.2.all (pm_chk pt_cl pt_me (800 + b)) = true := fun b => match b with
  | 0 => rfl
  | 1 => pt_c801
  | 2 => pt_c802
  | 3 => pt_c803
  | 4 => pt_c804
  | _ + 5 => rfl
theorem pt_pg9 : ∀ b, (pt_p9.getD b pt_m0).2.2.2.2.2.2.all (pm_chk pt_cl pt_me (900 + b)) = true := fun b => match b with
  | 0 => rfl
  | 1 => rfl
  | 2 => pt_c902
  | 3 => pt_c903
  | 4 => pt_c904
  | 5 => pt_c905
  | 6 => pt_c906
  | 7 => pt_c907
  | 8 => pt_c908
  | _ + 9 => rfl
theorem pt_pg10 : ∀ b, (pt_p10.getD b pt_m0).2.2.2.2.2.2.all (pm_chk pt_cl pt_me (1000 + b)) = true := fun b => match b with
  | 0 => rfl
  | 1 => pt_c1001
  | 2 => pt_c1002
  | 3 => pt_c1003
  | 4 => pt_c1004
  | 5 => pt_c1005
  | _ + 6 => rfl
theorem pt_pg12 : ∀ b, (pt_p12.getD b pt_m0).2.2.2.2.2.2.all (pm_chk pt_cl pt_me (1200 + b)) = true := fun b => match b with
  | 0 => rfl
  | 1 => pt_c1201
  | 2 => pt_c1202
  | 3 => pt_c1203
  | 4 => pt_c1204
  | 5 => pt_c1205
  | 6 => pt_c1206
  | 7 => pt_c1207
  | 8 => pt_c1208
  | 9 => pt_c1209
  | 10 => pt_c1210
  | 11 => pt_c1211
  | 12 => pt_c1212
  | 13 => pt_c1213
  | 14 => pt_c1214
  | 15 => pt_c1215
  | 16 => pt_c1216
  | 17 => pt_c1217
  | 18 => pt_c1218
  | 19 => pt_c1219
  | 20 => pt_c1220
  | 21 => pt_c1221
  | 22 => pt_c1222
  | 23 => pt_c1223
  | 24 => pt_c1224
  | 25 => pt_c1225
  | 26 => pt_c1226
  | 27 => pt_c1227
  | 28 => pt_c1228
  | 29 => pt_c1229
  | 30 => pt_c1230
  | 31 => pt_c1231
  | 32 => pt_c1232
  | 33 => pt_c1233
  | 34 => pt_c1234
  | 35 => pt_c1235
  | 36 => pt_c1236
  | 37 => pt_c1237
  | 38 => pt_c1238
  | 39 => pt_c1239
  | 40 => pt_c1240
  | 41 => pt_c1241
  | 42 => pt_c1242
  | 43 => pt_c1243
  | 44 => pt_c1244
  | 45 => pt_c1245
  | 46 => pt_c1246
  | 47 => pt_c1247
  | 48 => pt_c1248
  | 49 => pt_c1249
  | 50 => pt_c1250
  | 51 => pt_c1251
  | 52 => pt_c1252
  | 53 => pt_c1253
  | 54 => pt_c1254
  | 55 => pt_c1255
  | 56 => pt_c1256
  | 57 => pt_c1257
  | 58 => pt_c1258
  | 59 => pt_c1259
  | 60 => pt_c1260
  | 61 => pt_c1261
  | 62 => pt_c1262
  | 63 => pt_c1263
  | 64 => pt_c1264
  | 65 => pt_c1265
  | 66 => pt_c1266
  | 67 => pt_c1267
  | 68 => pt_c1268
  | 69 => pt_c1269
  | 70 => pt_c1270
  | 71 => pt_c1271
  | 72 => pt_c1272
  | 73 => pt_c1273
  | 74 => pt_c1274
  | 75 => pt_c1275
  | 76 => pt_c1276
  | 77 => pt_c1277
  | 78 => pt_c1278
  | 79 => pt_c1279
  | 80 => pt_c1280
  | 81 => pt_c1281
  | 82 => pt_c1282
  | 83 => pt_c1283
  | 84 => pt_c1284
  | 85 => pt_c1285
  | 86 => pt_c1286
  | 87 => pt_c1287
  | 88 => pt_c1288
  | 89 => pt_c1289
  | 90 => pt_c1290
  | 91 => pt_c1291
  | 92 => pt_c1292
  | 93 => pt_c1293
  | 94 => pt_c1294
  | 95 => pt_c1295
  | 96 => pt_c1296
  | 97 => pt_c1297
  | 98 => pt_c1298
  | 99 => pt_c1299
  | _ + 100 => rfl
theorem pt_pg13 : ∀ b, (pt_p13.getD b pt_m0).2.2.2.2.2.2.all (pm_chk pt_cl pt_me (1300 + b)) = true := fun b => match b with
  | 0 => pt_c1300
  | 1 => pt_c1301
  | 2 => pt_c1302
  | 3 => pt_c1303
  | 4 => pt_c1304
  | 5 => pt_c1305
  | 6 => pt_c1306
  | 7 => pt_c1307
  | 8 => pt_c1308
  | 9 => pt_c1309
  | 10 => pt_c1310
  | 11 => pt_c1311
  | 12 => pt_c1312
  | 13 => pt_c1313
  | 14 => pt_c1314
  | 15 => pt_c1315
  | 16 => pt_c1316
  | 17 => pt_c1317
  | 18 => pt_c1318
  | 19 => pt_c1319
  | 20 => pt_c1320
  | 21 => pt_c1321
  | 22 => pt_c1322
  | 23 => pt_c1323
  | 24 => pt_c1324
  | 25 => pt_c1325
  | 26 => pt_c1326
  | 27 => pt_c1327
  | 28 => pt_c1328
  | 29 => pt_c1329
  | _ + 30 => rfl
theorem pt_pg15 : ∀ b, (pt_p15.getD b pt_m0).2.2.2.2.2.2.all (pm_chk pt_cl pt_me (1500 + b)) = true := fun b => match b with
  | 0 => rfl
  | 1 => pt_c1501
  | 2 => pt_c1502
  | 3 => pt_c1503
  | 4 => pt_c1504
  | 5 => pt_c1505
  | 6 => pt_c1506
  | 7 => pt_c1507
  | 8 => pt_c1508
  | 9 => pt_c1509
  | 10 => pt_c1510
  | 11 => pt_c1511
  | 12 => pt_c1512
  | _ + 13 => rfl
theorem pt_pages : ∀ (a b : Nat), ((pt_ml.getD a []).getD b pt_m0).2.2.2.2.2.2.all (pm_chk pt_cl pt_me (100 * a + b)) = true := fun a => match a with
  | 0 => pt_pg0
  | 1 => pt_pg1
  | 2 => pt_pg2
  | 3 => pt_pg3
  | 4 => pt_pg4
  | 5 => pt_pg5
  | 6 => pt_pg6
  | 7 => pt_pg7
  | 8 => pt_pg8
  | 9 => pt_pg9
  | 10 => pt_pg10
  | 11 => fun _ => rfl
  | 12 => pt_pg12
  | 13 => pt_pg13
  | 14 => fun _ => rfl
  | 15 => pt_pg15
  | _ + 16 => fun _ => rfl
theorem pt_all (mi : Nat) (q : pm_Q) (h : q ∈ (pt_me mi).2.2.2.2.2.2) : pm_chk pt_cl pt_me mi q = true := by
  have h1 := pt_pages (mi / 100) (mi % 100)
  rw [show 100 * (mi / 100) + mi % 100 = mi by omega] at h1
  exact List.all_eq_true.mp h1 q h
def pm_ktb (kd : Nat) (ty : FieldType) : Bool := match kd with
  | 0 => decide (ty = .int)
  | 1 => decide (ty = .long)
  | 2 => decide (ty = .boolean)
  | 3 => match ty with
    | .object _ => true
    | .array _ => true
    | _ => false
  | _ => false
theorem pm_ktb_of {kd : Nat} {ty : FieldType} (h : pm_ktb kd ty = true) : pm_kt kd ty := by
  unfold pm_ktb at h
  split at h
  · show ty = .int; exact of_decide_eq_true h
  · show ty = .long; exact of_decide_eq_true h
  · show ty = .boolean; exact of_decide_eq_true h
  · split at h
    · exact Or.inl ⟨_, rfl⟩
    · exact Or.inr ⟨_, rfl⟩
    · cases h
  · cases h
theorem pt_sg1 : (List.range 100).all (fun r => match pt_Sg r with | .inr (c, ks) => decide (ks = pt_KS c) | .inl (_, n) => decide (n < 100000)) = true := by decide +kernel
theorem pt_sg2 (r : Nat) (h : 100 ≤ r) : pt_Sg r = .inl (9, 0) := by
  have h1 : pt_sl.length = 9 := rfl
  unfold pt_Sg
  rw [List.getD_eq_getElem?_getD, List.getD_eq_getElem?_getD, List.getElem?_eq_none (by omega : pt_sl.length ≤ r / 10)]
  rfl
theorem pt_sgo (r c : Nat) (ks : List Nat) (h : pt_Sg r = .inr (c, ks)) : ks = pt_KS c := by
  by_cases hr : r < 100
  · have := List.all_eq_true.mp pt_sg1 r (List.mem_range.mpr hr)
    rw [h] at this
    exact of_decide_eq_true this
  · rw [pt_sg2 r (by omega)] at h
    cases h
theorem pt_sga (r t n : Nat) (h : pt_Sg r = .inl (t, n)) : n < 100000 := by
  by_cases hr : r < 100
  · have := List.all_eq_true.mp pt_sg1 r (List.mem_range.mpr hr)
    rw [h] at this
    exact of_decide_eq_true this
  · rw [pt_sg2 r (by omega)] at h
    cases h
    decide
theorem pt_cw0 : (List.range 8).all (fun k => pm_wk (pt_il0.getD k 0) (u_lay "TurnCabinet" pt_T0 k)) = true := by decide +kernel
theorem pt_cn0 : ∀ a, a < 8 → ∀ b, b < 8 → a ≠ b → (pt_T0 a).2.1 ≠ (pt_T0 b).2.1 := by decide +kernel
theorem pt_ct0 : ∀ k, k < 8 → parseFieldDescriptor (pt_T0 k).2.2.1 = some (pt_tl0.getD k .int) := by decide +kernel
theorem pt_ck0 : ∀ k, k < 8 → pm_ktb ((pt_KS 0).getD k 9) (pt_tl0.getD k .int) = true := by decide +kernel
theorem pt_cw1 : (List.range 2).all (fun k => pm_wk (pt_il1.getD k 0) (u_lay "TurnCabinet$Tape" pt_T1 k)) = true := by decide +kernel
theorem pt_cn1 : ∀ a, a < 2 → ∀ b, b < 2 → a ≠ b → (pt_T1 a).2.1 ≠ (pt_T1 b).2.1 := by decide +kernel
theorem pt_ct1 : ∀ k, k < 2 → parseFieldDescriptor (pt_T1 k).2.2.1 = some (pt_tl1.getD k .int) := by decide +kernel
theorem pt_ck1 : ∀ k, k < 2 → pm_ktb ((pt_KS 1).getD k 9) (pt_tl1.getD k .int) = true := by decide +kernel
theorem pt_cw2 : (List.range 16).all (fun k => pm_wk (pt_il2.getD k 0) (u_lay "TurnCabinet$House" pt_T2 k)) = true := by decide +kernel
theorem pt_cn2 : ∀ a, a < 16 → ∀ b, b < 16 → a ≠ b → (pt_T2 a).2.1 ≠ (pt_T2 b).2.1 := by decide +kernel
theorem pt_ct2 : ∀ k, k < 16 → parseFieldDescriptor (pt_T2 k).2.2.1 = some (pt_tl2.getD k .int) := by decide +kernel
theorem pt_ck2 : ∀ k, k < 16 → pm_ktb ((pt_KS 2).getD k 9) (pt_tl2.getD k .int) = true := by decide +kernel
theorem pt_cw3 : (List.range 16).all (fun k => pm_wk (pt_il3.getD k 0) (u_lay "TurnCabinet$Reader" pt_T3 k)) = true := by decide +kernel
theorem pt_cn3 : ∀ a, a < 16 → ∀ b, b < 16 → a ≠ b → (pt_T3 a).2.1 ≠ (pt_T3 b).2.1 := by decide +kernel
theorem pt_ct3 : ∀ k, k < 16 → parseFieldDescriptor (pt_T3 k).2.2.1 = some (pt_tl3.getD k .int) := by decide +kernel
theorem pt_ck3 : ∀ k, k < 16 → pm_ktb ((pt_KS 3).getD k 9) (pt_tl3.getD k .int) = true := by decide +kernel
theorem pt_cw4 : (List.range 7).all (fun k => pm_wk (pt_il4.getD k 0) (u_lay "TurnCabinet$Picks" pt_T4 k)) = true := by decide +kernel
theorem pt_cn4 : ∀ a, a < 7 → ∀ b, b < 7 → a ≠ b → (pt_T4 a).2.1 ≠ (pt_T4 b).2.1 := by decide +kernel
theorem pt_ct4 : ∀ k, k < 7 → parseFieldDescriptor (pt_T4 k).2.2.1 = some (pt_tl4.getD k .int) := by decide +kernel
theorem pt_ck4 : ∀ k, k < 7 → pm_ktb ((pt_KS 4).getD k 9) (pt_tl4.getD k .int) = true := by decide +kernel
theorem pt_cw5 : (List.range 3).all (fun k => pm_wk (pt_il5.getD k 0) (u_lay "TurnCabinet$Shares" pt_T5 k)) = true := by decide +kernel
theorem pt_cn5 : ∀ a, a < 3 → ∀ b, b < 3 → a ≠ b → (pt_T5 a).2.1 ≠ (pt_T5 b).2.1 := by decide +kernel
theorem pt_ct5 : ∀ k, k < 3 → parseFieldDescriptor (pt_T5 k).2.2.1 = some (pt_tl5.getD k .int) := by decide +kernel
theorem pt_ck5 : ∀ k, k < 3 → pm_ktb ((pt_KS 5).getD k 9) (pt_tl5.getD k .int) = true := by decide +kernel
theorem pt_cw6 : (List.range 15).all (fun k => pm_wk (pt_il6.getD k 0) (u_lay "TurnCabinet$Coalitions" pt_T6 k)) = true := by decide +kernel
theorem pt_cn6 : ∀ a, a < 15 → ∀ b, b < 15 → a ≠ b → (pt_T6 a).2.1 ≠ (pt_T6 b).2.1 := by decide +kernel
theorem pt_ct6 : ∀ k, k < 15 → parseFieldDescriptor (pt_T6 k).2.2.1 = some (pt_tl6.getD k .int) := by decide +kernel
theorem pt_ck6 : ∀ k, k < 15 → pm_ktb ((pt_KS 6).getD k 9) (pt_tl6.getD k .int) = true := by decide +kernel
theorem pt_cw7 : (List.range 8).all (fun k => pm_wk (pt_il7.getD k 0) (u_lay "TurnCabinet$Forming" pt_T7 k)) = true := by decide +kernel
theorem pt_cn7 : ∀ a, a < 8 → ∀ b, b < 8 → a ≠ b → (pt_T7 a).2.1 ≠ (pt_T7 b).2.1 := by decide +kernel
theorem pt_ct7 : ∀ k, k < 8 → parseFieldDescriptor (pt_T7 k).2.2.1 = some (pt_tl7.getD k .int) := by decide +kernel
theorem pt_ck7 : ∀ k, k < 8 → pm_ktb ((pt_KS 7).getD k 9) (pt_tl7.getD k .int) = true := by decide +kernel
theorem pt_cw8 : (List.range 8).all (fun k => pm_wk (pt_il8.getD k 0) (u_lay "TurnCabinet$Cabinet" pt_T8 k)) = true := by decide +kernel
theorem pt_cn8 : ∀ a, a < 8 → ∀ b, b < 8 → a ≠ b → (pt_T8 a).2.1 ≠ (pt_T8 b).2.1 := by decide +kernel
theorem pt_ct8 : ∀ k, k < 8 → parseFieldDescriptor (pt_T8 k).2.2.1 = some (pt_tl8.getD k .int) := by decide +kernel
theorem pt_ck8 : ∀ k, k < 8 → pm_ktb ((pt_KS 8).getD k 9) (pt_tl8.getD k .int) = true := by decide +kernel
theorem pt_cw9 : (List.range 66).all (fun k => pm_wk (pt_il9.getD k 0) (u_lay "TurnCabinetModel" pt_T9 k)) = true := by decide +kernel
theorem pt_cn9 : ∀ a, a < 66 → ∀ b, b < 66 → a ≠ b → (pt_T9 a).2.1 ≠ (pt_T9 b).2.1 := by decide +kernel
theorem pt_ct9 : ∀ k, k < 66 → parseFieldDescriptor (pt_T9 k).2.2.1 = some (pt_tl9.getD k .int) := by decide +kernel
theorem pt_ck9 : ∀ k, k < 66 → pm_ktb ((pt_KS 9).getD k 9) (pt_tl9.getD k .int) = true := by decide +kernel
theorem pt_lay {C : String} {T : u_T} {N : Nat} {il : List Nat} (h : (List.range N).all (fun k => pm_wk (il.getD k 0) (u_lay C T k)) = true) : ∀ w ∈ u_ws C T N, w ∈ pm_G := by
  intro w hw
  obtain ⟨k, h1, rfl⟩ := List.mem_map.mp hw
  exact pm_wk_of (List.all_eq_true.mp h k h1)
theorem pt_E1 : pm_E1 pt_me pt_Sg pt_cl := by
  refine ⟨pt_all, ?_, fun r t n h _ => pt_sga r t n h⟩
  intro c C T N h
  match c, h with
  | 0, h => cases h; exact ⟨fun k => pt_tl0.getD k .int, pt_lay pt_cw0, pt_cn0, pt_ct0, fun r ks hr => by rw [pt_sgo r _ ks hr]; exact ⟨rfl, fun k hk => pm_ktb_of (pt_ck0 k hk)⟩⟩
  | 1, h => cases h; exact ⟨fun k => pt_tl1.getD k .int, pt_lay pt_cw1, pt_cn1, pt_ct1, fun r ks hr => by rw [pt_sgo r _ ks hr]; exact ⟨rfl, fun k hk => pm_ktb_of (pt_ck1 k hk)⟩⟩
  | 2, h => cases h; exact ⟨fun k => pt_tl2.getD k .int, pt_lay pt_cw2, pt_cn2, pt_ct2, fun r ks hr => by rw [pt_sgo r _ ks hr]; exact ⟨rfl, fun k hk => pm_ktb_of (pt_ck2 k hk)⟩⟩
  | 3, h => cases h; exact ⟨fun k => pt_tl3.getD k .int, pt_lay pt_cw3, pt_cn3, pt_ct3, fun r ks hr => by rw [pt_sgo r _ ks hr]; exact ⟨rfl, fun k hk => pm_ktb_of (pt_ck3 k hk)⟩⟩
  | 4, h => cases h; exact ⟨fun k => pt_tl4.getD k .int, pt_lay pt_cw4, pt_cn4, pt_ct4, fun r ks hr => by rw [pt_sgo r _ ks hr]; exact ⟨rfl, fun k hk => pm_ktb_of (pt_ck4 k hk)⟩⟩
  | 5, h => cases h; exact ⟨fun k => pt_tl5.getD k .int, pt_lay pt_cw5, pt_cn5, pt_ct5, fun r ks hr => by rw [pt_sgo r _ ks hr]; exact ⟨rfl, fun k hk => pm_ktb_of (pt_ck5 k hk)⟩⟩
  | 6, h => cases h; exact ⟨fun k => pt_tl6.getD k .int, pt_lay pt_cw6, pt_cn6, pt_ct6, fun r ks hr => by rw [pt_sgo r _ ks hr]; exact ⟨rfl, fun k hk => pm_ktb_of (pt_ck6 k hk)⟩⟩
  | 7, h => cases h; exact ⟨fun k => pt_tl7.getD k .int, pt_lay pt_cw7, pt_cn7, pt_ct7, fun r ks hr => by rw [pt_sgo r _ ks hr]; exact ⟨rfl, fun k hk => pm_ktb_of (pt_ck7 k hk)⟩⟩
  | 8, h => cases h; exact ⟨fun k => pt_tl8.getD k .int, pt_lay pt_cw8, pt_cn8, pt_ct8, fun r ks hr => by rw [pt_sgo r _ ks hr]; exact ⟨rfl, fun k hk => pm_ktb_of (pt_ck8 k hk)⟩⟩
  | 9, h => cases h; exact ⟨fun k => pt_tl9.getD k .int, pt_lay pt_cw9, pt_cn9, pt_ct9, fun r ks hr => by rw [pt_sgo r _ ks hr]; exact ⟨rfl, fun k hk => pm_ktb_of (pt_ck9 k hk)⟩⟩
  | n + 10, h => cases h
