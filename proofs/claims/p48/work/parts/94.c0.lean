/-! ===== the class' tables say what the bytes and the words say ===== -/
set_option maxRecDepth 100000 in
theorem pt_ok101_0 : pt_q101_0.all (pm_chk qt_cl pt_me 101) = true := by decide +kernel
set_option maxRecDepth 100000 in
theorem pt_ok1001_0 : pt_q1001_0.all (pm_chk qt_cl pt_me 1001) = true := by decide +kernel
set_option maxRecDepth 100000 in
theorem pt_ok501_0 : pt_q501_0.all (pm_chk qt_cl pt_me 501) = true := by decide +kernel
set_option maxRecDepth 100000 in
theorem pt_ok701_0 : pt_q701_0.all (pm_chk qt_cl pt_me 701) = true := by decide +kernel
set_option maxRecDepth 100000 in
theorem pt_ok701_1 : pt_q701_1.all (pm_chk qt_cl pt_me 701) = true := by decide +kernel
set_option maxRecDepth 100000 in
theorem pt_ok1501_0 : pt_q1501_0.all (pm_chk qt_cl pt_me 1501) = true := by decide +kernel
set_option maxRecDepth 100000 in
theorem pt_ok1502_0 : pt_q1502_0.all (pm_chk qt_cl pt_me 1502) = true := by decide +kernel
set_option maxRecDepth 100000 in
theorem pt_ok1503_0 : pt_q1503_0.all (pm_chk qt_cl pt_me 1503) = true := by decide +kernel
set_option maxRecDepth 100000 in
theorem pt_ok1504_0 : pt_q1504_0.all (pm_chk qt_cl pt_me 1504) = true := by decide +kernel
set_option maxRecDepth 100000 in
theorem pt_ok1505_0 : pt_q1505_0.all (pm_chk qt_cl pt_me 1505) = true := by decide +kernel
set_option maxRecDepth 100000 in
theorem pt_ok1506_0 : pt_q1506_0.all (pm_chk qt_cl pt_me 1506) = true := by decide +kernel
set_option maxRecDepth 100000 in
theorem pt_ok1507_0 : pt_q1507_0.all (pm_chk qt_cl pt_me 1507) = true := by decide +kernel
set_option maxRecDepth 100000 in
theorem pt_ok724_0 : pt_q724_0.all (pm_chk qt_cl pt_me 724) = true := by decide +kernel
set_option maxRecDepth 100000 in
theorem pt_ok601_0 : pt_q601_0.all (pm_chk qt_cl pt_me 601) = true := by decide +kernel
set_option maxRecDepth 100000 in
theorem pt_ok801_0 : pt_q801_0.all (pm_chk qt_cl pt_me 801) = true := by decide +kernel
set_option maxRecDepth 100000 in
theorem pt_ok301_0 : pt_q301_0.all (pm_chk qt_cl pt_me 301) = true := by decide +kernel
set_option maxRecDepth 100000 in
theorem pt_ok401_0 : pt_q401_0.all (pm_chk qt_cl pt_me 401) = true := by decide +kernel
set_option maxRecDepth 100000 in
theorem pt_ok201_0 : pt_q201_0.all (pm_chk qt_cl pt_me 201) = true := by decide +kernel
set_option maxRecDepth 100000 in
theorem pt_ok104_0 : pt_q104_0.all (pm_chk qt_cl pt_me 104) = true := by decide +kernel
set_option maxRecDepth 100000 in
theorem pt_ok702_0 : pt_q702_0.all (pm_chk qt_cl pt_me 702) = true := by decide +kernel
set_option maxRecDepth 100000 in
theorem pt_ok502_0 : pt_q502_0.all (pm_chk qt_cl pt_me 502) = true := by decide +kernel
set_option maxRecDepth 100000 in
theorem pt_ok721_0 : pt_q721_0.all (pm_chk qt_cl pt_me 721) = true := by decide +kernel
set_option maxRecDepth 100000 in
theorem pt_ok721_1 : pt_q721_1.all (pm_chk qt_cl pt_me 721) = true := by decide +kernel
set_option maxRecDepth 100000 in
theorem pt_ok1002_0 : pt_q1002_0.all (pm_chk qt_cl pt_me 1002) = true := by decide +kernel
set_option maxRecDepth 100000 in
theorem pt_ok1003_0 : pt_q1003_0.all (pm_chk qt_cl pt_me 1003) = true := by decide +kernel
set_option maxRecDepth 100000 in
theorem pt_ok725_0 : pt_q725_0.all (pm_chk qt_cl pt_me 725) = true := by decide +kernel
set_option maxRecDepth 100000 in
theorem pt_ok726_0 : pt_q726_0.all (pm_chk qt_cl pt_me 726) = true := by decide +kernel
set_option maxRecDepth 100000 in
theorem pt_ok722_0 : pt_q722_0.all (pm_chk qt_cl pt_me 722) = true := by decide +kernel
set_option maxRecDepth 100000 in
theorem pt_ok720_0 : pt_q720_0.all (pm_chk qt_cl pt_me 720) = true := by decide +kernel
set_option maxRecDepth 100000 in
theorem pt_ok727_0 : pt_q727_0.all (pm_chk qt_cl pt_me 727) = true := by decide +kernel
set_option maxRecDepth 100000 in
theorem pt_ok723_0 : pt_q723_0.all (pm_chk qt_cl pt_me 723) = true := by decide +kernel
set_option maxRecDepth 100000 in
theorem pt_ok703_0 : pt_q703_0.all (pm_chk qt_cl pt_me 703) = true := by decide +kernel
set_option maxRecDepth 100000 in
theorem pt_ok706_0 : pt_q706_0.all (pm_chk qt_cl pt_me 706) = true := by decide +kernel
set_option maxRecDepth 100000 in
theorem pt_ok706_1 : pt_q706_1.all (pm_chk qt_cl pt_me 706) = true := by decide +kernel
set_option maxRecDepth 100000 in
theorem pt_ok709_0 : pt_q709_0.all (pm_chk qt_cl pt_me 709) = true := by decide +kernel
set_option maxRecDepth 100000 in
theorem pt_ok707_0 : pt_q707_0.all (pm_chk qt_cl pt_me 707) = true := by decide +kernel
set_option maxRecDepth 100000 in
theorem pt_ok151_0 : pt_q151_0.all (pm_chk qt_cl pt_me 151) = true := by decide +kernel
set_option maxRecDepth 100000 in
theorem pt_ok704_0 : pt_q704_0.all (pm_chk qt_cl pt_me 704) = true := by decide +kernel
set_option maxRecDepth 100000 in
theorem pt_ok714_0 : pt_q714_0.all (pm_chk qt_cl pt_me 714) = true := by decide +kernel
set_option maxRecDepth 100000 in
theorem pt_ok705_0 : pt_q705_0.all (pm_chk qt_cl pt_me 705) = true := by decide +kernel
set_option maxRecDepth 100000 in
theorem pt_ok715_0 : pt_q715_0.all (pm_chk qt_cl pt_me 715) = true := by decide +kernel
set_option maxRecDepth 100000 in
theorem pt_ok708_0 : pt_q708_0.all (pm_chk qt_cl pt_me 708) = true := by decide +kernel
set_option maxRecDepth 100000 in
theorem pt_ok710_0 : pt_q710_0.all (pm_chk qt_cl pt_me 710) = true := by decide +kernel
set_option maxRecDepth 100000 in
theorem pt_ok719_0 : pt_q719_0.all (pm_chk qt_cl pt_me 719) = true := by decide +kernel
set_option maxRecDepth 100000 in
theorem pt_ok717_0 : pt_q717_0.all (pm_chk qt_cl pt_me 717) = true := by decide +kernel
set_option maxRecDepth 100000 in
theorem pt_ok711_0 : pt_q711_0.all (pm_chk qt_cl pt_me 711) = true := by decide +kernel
set_option maxRecDepth 100000 in
theorem pt_ok711_1 : pt_q711_1.all (pm_chk qt_cl pt_me 711) = true := by decide +kernel
set_option maxRecDepth 100000 in
theorem pt_ok716_0 : pt_q716_0.all (pm_chk qt_cl pt_me 716) = true := by decide +kernel
set_option maxRecDepth 100000 in
theorem pt_ok712_0 : pt_q712_0.all (pm_chk qt_cl pt_me 712) = true := by decide +kernel
set_option maxRecDepth 100000 in
theorem pt_ok718_0 : pt_q718_0.all (pm_chk qt_cl pt_me 718) = true := by decide +kernel
set_option maxRecDepth 100000 in
theorem pt_ok713_0 : pt_q713_0.all (pm_chk qt_cl pt_me 713) = true := by decide +kernel
