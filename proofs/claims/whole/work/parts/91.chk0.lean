/-! ===== the tables say what the bytes and the words say ===== -/
set_option maxRecDepth 100000 in
theorem pt_ok101_0 : pt_q101_0.all (pm_chk pt_cl pt_me 101) = true := by decide +kernel
set_option maxRecDepth 100000 in
theorem pt_ok1001_0 : pt_q1001_0.all (pm_chk pt_cl pt_me 1001) = true := by decide +kernel
set_option maxRecDepth 100000 in
theorem pt_ok501_0 : pt_q501_0.all (pm_chk pt_cl pt_me 501) = true := by decide +kernel
set_option maxRecDepth 100000 in
theorem pt_ok701_0 : pt_q701_0.all (pm_chk pt_cl pt_me 701) = true := by decide +kernel
set_option maxRecDepth 100000 in
theorem pt_ok701_1 : pt_q701_1.all (pm_chk pt_cl pt_me 701) = true := by decide +kernel
set_option maxRecDepth 100000 in
theorem pt_ok1501_0 : pt_q1501_0.all (pm_chk pt_cl pt_me 1501) = true := by decide +kernel
set_option maxRecDepth 100000 in
theorem pt_ok1502_0 : pt_q1502_0.all (pm_chk pt_cl pt_me 1502) = true := by decide +kernel
set_option maxRecDepth 100000 in
theorem pt_ok1503_0 : pt_q1503_0.all (pm_chk pt_cl pt_me 1503) = true := by decide +kernel
set_option maxRecDepth 100000 in
theorem pt_ok1504_0 : pt_q1504_0.all (pm_chk pt_cl pt_me 1504) = true := by decide +kernel
set_option maxRecDepth 100000 in
theorem pt_ok1505_0 : pt_q1505_0.all (pm_chk pt_cl pt_me 1505) = true := by decide +kernel
set_option maxRecDepth 100000 in
theorem pt_ok1506_0 : pt_q1506_0.all (pm_chk pt_cl pt_me 1506) = true := by decide +kernel
set_option maxRecDepth 100000 in
theorem pt_ok1507_0 : pt_q1507_0.all (pm_chk pt_cl pt_me 1507) = true := by decide +kernel
set_option maxRecDepth 100000 in
theorem pt_ok724_0 : pt_q724_0.all (pm_chk pt_cl pt_me 724) = true := by decide +kernel
set_option maxRecDepth 100000 in
theorem pt_ok601_0 : pt_q601_0.all (pm_chk pt_cl pt_me 601) = true := by decide +kernel
set_option maxRecDepth 100000 in
theorem pt_ok801_0 : pt_q801_0.all (pm_chk pt_cl pt_me 801) = true := by decide +kernel
set_option maxRecDepth 100000 in
theorem pt_ok301_0 : pt_q301_0.all (pm_chk pt_cl pt_me 301) = true := by decide +kernel
set_option maxRecDepth 100000 in
theorem pt_ok401_0 : pt_q401_0.all (pm_chk pt_cl pt_me 401) = true := by decide +kernel
set_option maxRecDepth 100000 in
theorem pt_ok201_0 : pt_q201_0.all (pm_chk pt_cl pt_me 201) = true := by decide +kernel
set_option maxRecDepth 100000 in
theorem pt_ok102_0 : pt_q102_0.all (pm_chk pt_cl pt_me 102) = true := by decide +kernel
set_option maxRecDepth 100000 in
theorem pt_ok1002_0 : pt_q1002_0.all (pm_chk pt_cl pt_me 1002) = true := by decide +kernel
set_option maxRecDepth 100000 in
theorem pt_ok1004_0 : pt_q1004_0.all (pm_chk pt_cl pt_me 1004) = true := by decide +kernel
set_option maxRecDepth 100000 in
theorem pt_ok103_0 : pt_q103_0.all (pm_chk pt_cl pt_me 103) = true := by decide +kernel
set_option maxRecDepth 100000 in
theorem pt_ok1005_0 : pt_q1005_0.all (pm_chk pt_cl pt_me 1005) = true := by decide +kernel
set_option maxRecDepth 100000 in
theorem pt_ok104_0 : pt_q104_0.all (pm_chk pt_cl pt_me 104) = true := by decide +kernel
set_option maxRecDepth 100000 in
theorem pt_ok702_0 : pt_q702_0.all (pm_chk pt_cl pt_me 702) = true := by decide +kernel
set_option maxRecDepth 100000 in
theorem pt_ok502_0 : pt_q502_0.all (pm_chk pt_cl pt_me 502) = true := by decide +kernel
set_option maxRecDepth 100000 in
theorem pt_ok721_0 : pt_q721_0.all (pm_chk pt_cl pt_me 721) = true := by decide +kernel
set_option maxRecDepth 100000 in
theorem pt_ok721_1 : pt_q721_1.all (pm_chk pt_cl pt_me 721) = true := by decide +kernel
set_option maxRecDepth 100000 in
theorem pt_ok1003_0 : pt_q1003_0.all (pm_chk pt_cl pt_me 1003) = true := by decide +kernel
set_option maxRecDepth 100000 in
theorem pt_ok725_0 : pt_q725_0.all (pm_chk pt_cl pt_me 725) = true := by decide +kernel
set_option maxRecDepth 100000 in
theorem pt_ok726_0 : pt_q726_0.all (pm_chk pt_cl pt_me 726) = true := by decide +kernel
set_option maxRecDepth 100000 in
theorem pt_ok722_0 : pt_q722_0.all (pm_chk pt_cl pt_me 722) = true := by decide +kernel
set_option maxRecDepth 100000 in
theorem pt_ok720_0 : pt_q720_0.all (pm_chk pt_cl pt_me 720) = true := by decide +kernel
set_option maxRecDepth 100000 in
theorem pt_ok727_0 : pt_q727_0.all (pm_chk pt_cl pt_me 727) = true := by decide +kernel
set_option maxRecDepth 100000 in
theorem pt_ok723_0 : pt_q723_0.all (pm_chk pt_cl pt_me 723) = true := by decide +kernel
set_option maxRecDepth 100000 in
theorem pt_ok703_0 : pt_q703_0.all (pm_chk pt_cl pt_me 703) = true := by decide +kernel
set_option maxRecDepth 100000 in
theorem pt_ok706_0 : pt_q706_0.all (pm_chk pt_cl pt_me 706) = true := by decide +kernel
set_option maxRecDepth 100000 in
theorem pt_ok706_1 : pt_q706_1.all (pm_chk pt_cl pt_me 706) = true := by decide +kernel
set_option maxRecDepth 100000 in
theorem pt_ok709_0 : pt_q709_0.all (pm_chk pt_cl pt_me 709) = true := by decide +kernel
set_option maxRecDepth 100000 in
theorem pt_ok707_0 : pt_q707_0.all (pm_chk pt_cl pt_me 707) = true := by decide +kernel
set_option maxRecDepth 100000 in
theorem pt_ok151_0 : pt_q151_0.all (pm_chk pt_cl pt_me 151) = true := by decide +kernel
set_option maxRecDepth 100000 in
theorem pt_ok704_0 : pt_q704_0.all (pm_chk pt_cl pt_me 704) = true := by decide +kernel
set_option maxRecDepth 100000 in
theorem pt_ok714_0 : pt_q714_0.all (pm_chk pt_cl pt_me 714) = true := by decide +kernel
set_option maxRecDepth 100000 in
theorem pt_ok705_0 : pt_q705_0.all (pm_chk pt_cl pt_me 705) = true := by decide +kernel
set_option maxRecDepth 100000 in
theorem pt_ok715_0 : pt_q715_0.all (pm_chk pt_cl pt_me 715) = true := by decide +kernel
set_option maxRecDepth 100000 in
theorem pt_ok708_0 : pt_q708_0.all (pm_chk pt_cl pt_me 708) = true := by decide +kernel
set_option maxRecDepth 100000 in
theorem pt_ok710_0 : pt_q710_0.all (pm_chk pt_cl pt_me 710) = true := by decide +kernel
set_option maxRecDepth 100000 in
theorem pt_ok719_0 : pt_q719_0.all (pm_chk pt_cl pt_me 719) = true := by decide +kernel
set_option maxRecDepth 100000 in
theorem pt_ok717_0 : pt_q717_0.all (pm_chk pt_cl pt_me 717) = true := by decide +kernel
set_option maxRecDepth 100000 in
theorem pt_ok711_0 : pt_q711_0.all (pm_chk pt_cl pt_me 711) = true := by decide +kernel
set_option maxRecDepth 100000 in
theorem pt_ok711_1 : pt_q711_1.all (pm_chk pt_cl pt_me 711) = true := by decide +kernel
set_option maxRecDepth 100000 in
theorem pt_ok716_0 : pt_q716_0.all (pm_chk pt_cl pt_me 716) = true := by decide +kernel
set_option maxRecDepth 100000 in
theorem pt_ok712_0 : pt_q712_0.all (pm_chk pt_cl pt_me 712) = true := by decide +kernel
set_option maxRecDepth 100000 in
theorem pt_ok718_0 : pt_q718_0.all (pm_chk pt_cl pt_me 718) = true := by decide +kernel
set_option maxRecDepth 100000 in
theorem pt_ok713_0 : pt_q713_0.all (pm_chk pt_cl pt_me 713) = true := by decide +kernel
set_option maxRecDepth 100000 in
theorem pt_ok503_0 : pt_q503_0.all (pm_chk pt_cl pt_me 503) = true := by decide +kernel
set_option maxRecDepth 100000 in
theorem pt_ok503_1 : pt_q503_1.all (pm_chk pt_cl pt_me 503) = true := by decide +kernel
set_option maxRecDepth 100000 in
theorem pt_ok202_0 : pt_q202_0.all (pm_chk pt_cl pt_me 202) = true := by decide +kernel
set_option maxRecDepth 100000 in
theorem pt_ok105_0 : pt_q105_0.all (pm_chk pt_cl pt_me 105) = true := by decide +kernel
set_option maxRecDepth 100000 in
theorem pt_ok106_0 : pt_q106_0.all (pm_chk pt_cl pt_me 106) = true := by decide +kernel
set_option maxRecDepth 100000 in
theorem pt_ok504_0 : pt_q504_0.all (pm_chk pt_cl pt_me 504) = true := by decide +kernel
set_option maxRecDepth 100000 in
theorem pt_ok508_0 : pt_q508_0.all (pm_chk pt_cl pt_me 508) = true := by decide +kernel
set_option maxRecDepth 100000 in
theorem pt_ok509_0 : pt_q509_0.all (pm_chk pt_cl pt_me 509) = true := by decide +kernel
set_option maxRecDepth 100000 in
theorem pt_ok510_0 : pt_q510_0.all (pm_chk pt_cl pt_me 510) = true := by decide +kernel
set_option maxRecDepth 100000 in
theorem pt_ok205_0 : pt_q205_0.all (pm_chk pt_cl pt_me 205) = true := by decide +kernel
set_option maxRecDepth 100000 in
theorem pt_ok206_0 : pt_q206_0.all (pm_chk pt_cl pt_me 206) = true := by decide +kernel
set_option maxRecDepth 100000 in
theorem pt_ok905_0 : pt_q905_0.all (pm_chk pt_cl pt_me 905) = true := by decide +kernel
set_option maxRecDepth 100000 in
theorem pt_ok902_0 : pt_q902_0.all (pm_chk pt_cl pt_me 902) = true := by decide +kernel
set_option maxRecDepth 100000 in
theorem pt_ok1508_0 : pt_q1508_0.all (pm_chk pt_cl pt_me 1508) = true := by decide +kernel
set_option maxRecDepth 100000 in
theorem pt_ok511_0 : pt_q511_0.all (pm_chk pt_cl pt_me 511) = true := by decide +kernel
set_option maxRecDepth 100000 in
theorem pt_ok107_0 : pt_q107_0.all (pm_chk pt_cl pt_me 107) = true := by decide +kernel
set_option maxRecDepth 100000 in
theorem pt_ok505_0 : pt_q505_0.all (pm_chk pt_cl pt_me 505) = true := by decide +kernel
set_option maxRecDepth 100000 in
theorem pt_ok512_0 : pt_q512_0.all (pm_chk pt_cl pt_me 512) = true := by decide +kernel
set_option maxRecDepth 100000 in
theorem pt_ok108_0 : pt_q108_0.all (pm_chk pt_cl pt_me 108) = true := by decide +kernel
set_option maxRecDepth 100000 in
theorem pt_ok517_0 : pt_q517_0.all (pm_chk pt_cl pt_me 517) = true := by decide +kernel
set_option maxRecDepth 100000 in
theorem pt_ok507_0 : pt_q507_0.all (pm_chk pt_cl pt_me 507) = true := by decide +kernel
set_option maxRecDepth 100000 in
theorem pt_ok515_0 : pt_q515_0.all (pm_chk pt_cl pt_me 515) = true := by decide +kernel
set_option maxRecDepth 100000 in
theorem pt_ok516_0 : pt_q516_0.all (pm_chk pt_cl pt_me 516) = true := by decide +kernel
set_option maxRecDepth 100000 in
theorem pt_ok109_0 : pt_q109_0.all (pm_chk pt_cl pt_me 109) = true := by decide +kernel
set_option maxRecDepth 100000 in
theorem pt_ok110_0 : pt_q110_0.all (pm_chk pt_cl pt_me 110) = true := by decide +kernel
set_option maxRecDepth 100000 in
theorem pt_ok506_0 : pt_q506_0.all (pm_chk pt_cl pt_me 506) = true := by decide +kernel
set_option maxRecDepth 100000 in
theorem pt_ok150_0 : pt_q150_0.all (pm_chk pt_cl pt_me 150) = true := by decide +kernel
set_option maxRecDepth 100000 in
theorem pt_ok602_0 : pt_q602_0.all (pm_chk pt_cl pt_me 602) = true := by decide +kernel
set_option maxRecDepth 100000 in
theorem pt_ok518_0 : pt_q518_0.all (pm_chk pt_cl pt_me 518) = true := by decide +kernel
set_option maxRecDepth 100000 in
theorem pt_ok906_0 : pt_q906_0.all (pm_chk pt_cl pt_me 906) = true := by decide +kernel
set_option maxRecDepth 100000 in
theorem pt_ok903_0 : pt_q903_0.all (pm_chk pt_cl pt_me 903) = true := by decide +kernel
set_option maxRecDepth 100000 in
theorem pt_ok907_0 : pt_q907_0.all (pm_chk pt_cl pt_me 907) = true := by decide +kernel
set_option maxRecDepth 100000 in
theorem pt_ok111_0 : pt_q111_0.all (pm_chk pt_cl pt_me 111) = true := by decide +kernel
set_option maxRecDepth 100000 in
theorem pt_ok149_0 : pt_q149_0.all (pm_chk pt_cl pt_me 149) = true := by decide +kernel
set_option maxRecDepth 100000 in
theorem pt_ok307_0 : pt_q307_0.all (pm_chk pt_cl pt_me 307) = true := by decide +kernel
set_option maxRecDepth 100000 in
theorem pt_ok305_0 : pt_q305_0.all (pm_chk pt_cl pt_me 305) = true := by decide +kernel
set_option maxRecDepth 100000 in
theorem pt_ok305_1 : pt_q305_1.all (pm_chk pt_cl pt_me 305) = true := by decide +kernel
set_option maxRecDepth 100000 in
theorem pt_ok302_0 : pt_q302_0.all (pm_chk pt_cl pt_me 302) = true := by decide +kernel
set_option maxRecDepth 100000 in
theorem pt_ok302_1 : pt_q302_1.all (pm_chk pt_cl pt_me 302) = true := by decide +kernel
set_option maxRecDepth 100000 in
theorem pt_ok303_0 : pt_q303_0.all (pm_chk pt_cl pt_me 303) = true := by decide +kernel
set_option maxRecDepth 100000 in
theorem pt_ok1509_0 : pt_q1509_0.all (pm_chk pt_cl pt_me 1509) = true := by decide +kernel
set_option maxRecDepth 100000 in
theorem pt_ok306_0 : pt_q306_0.all (pm_chk pt_cl pt_me 306) = true := by decide +kernel
set_option maxRecDepth 100000 in
theorem pt_ok306_1 : pt_q306_1.all (pm_chk pt_cl pt_me 306) = true := by decide +kernel
set_option maxRecDepth 100000 in
theorem pt_ok607_0 : pt_q607_0.all (pm_chk pt_cl pt_me 607) = true := by decide +kernel
set_option maxRecDepth 100000 in
theorem pt_ok608_0 : pt_q608_0.all (pm_chk pt_cl pt_me 608) = true := by decide +kernel
set_option maxRecDepth 100000 in
theorem pt_ok606_0 : pt_q606_0.all (pm_chk pt_cl pt_me 606) = true := by decide +kernel
set_option maxRecDepth 100000 in
theorem pt_ok610_0 : pt_q610_0.all (pm_chk pt_cl pt_me 610) = true := by decide +kernel
set_option maxRecDepth 100000 in
theorem pt_ok610_1 : pt_q610_1.all (pm_chk pt_cl pt_me 610) = true := by decide +kernel
set_option maxRecDepth 100000 in
theorem pt_ok609_0 : pt_q609_0.all (pm_chk pt_cl pt_me 609) = true := by decide +kernel
set_option maxRecDepth 100000 in
theorem pt_ok604_0 : pt_q604_0.all (pm_chk pt_cl pt_me 604) = true := by decide +kernel
set_option maxRecDepth 100000 in
theorem pt_ok520_0 : pt_q520_0.all (pm_chk pt_cl pt_me 520) = true := by decide +kernel
set_option maxRecDepth 100000 in
theorem pt_ok521_0 : pt_q521_0.all (pm_chk pt_cl pt_me 521) = true := by decide +kernel
set_option maxRecDepth 100000 in
theorem pt_ok524_0 : pt_q524_0.all (pm_chk pt_cl pt_me 524) = true := by decide +kernel
set_option maxRecDepth 100000 in
theorem pt_ok1510_0 : pt_q1510_0.all (pm_chk pt_cl pt_me 1510) = true := by decide +kernel
set_option maxRecDepth 100000 in
theorem pt_ok525_0 : pt_q525_0.all (pm_chk pt_cl pt_me 525) = true := by decide +kernel
set_option maxRecDepth 100000 in
theorem pt_ok513_0 : pt_q513_0.all (pm_chk pt_cl pt_me 513) = true := by decide +kernel
set_option maxRecDepth 100000 in
theorem pt_ok603_0 : pt_q603_0.all (pm_chk pt_cl pt_me 603) = true := by decide +kernel
set_option maxRecDepth 100000 in
theorem pt_ok519_0 : pt_q519_0.all (pm_chk pt_cl pt_me 519) = true := by decide +kernel
set_option maxRecDepth 100000 in
theorem pt_ok611_0 : pt_q611_0.all (pm_chk pt_cl pt_me 611) = true := by decide +kernel
set_option maxRecDepth 100000 in
theorem pt_ok614_0 : pt_q614_0.all (pm_chk pt_cl pt_me 614) = true := by decide +kernel
set_option maxRecDepth 100000 in
theorem pt_ok615_0 : pt_q615_0.all (pm_chk pt_cl pt_me 615) = true := by decide +kernel
